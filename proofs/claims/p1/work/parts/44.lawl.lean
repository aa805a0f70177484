/-- class and reference answer alike: z the class's end, w the reference's, cd the number of an exception -/
def Ag (z : XR) (w : Int32 × St) (cd : Nat → Int32) : Prop := (∀ x, z.1 = .inl x → w.2.1 0 0 = 0 ∧ w.1 = x) ∧ ∀ E, z.1 = .inr E → w.2.1 0 0 = cd E ∧ cd E ≠ 0
def S_sort {β : Type} (I : Nat → St → β → St → Prop) : Prop := ∀ (n : Nat) (σ : St) (B : β) (τ : St), I (n + 1) σ B τ → k_CL_sort σ ∧ k_Mo_sort τ ∧ (f_CL_sort σ).1 = (f_Mo_sort τ).1 ∧ I n (f_CL_sort σ).2 B (f_Mo_sort τ).2
def S_symbol {β : Type} (I : Nat → St → β → St → Prop) : Prop := ∀ (n : Nat) (σ : St) (B : β) (τ : St) (a1 : Int32) (a2 : Int32) (a3 : Int32), I (n + 1) σ B τ → k_CL_symbol a1 a2 a3 σ ∧ k_Mo_symbol a1 a2 a3 τ ∧ (f_CL_symbol a1 a2 a3 σ).1 = (f_Mo_symbol a1 a2 a3 τ).1 ∧ I n (f_CL_symbol a1 a2 a3 σ).2 B (f_Mo_symbol a1 a2 a3 τ).2
def S_variable {β : Type} (I : Nat → St → β → St → Prop) : Prop := ∀ (n : Nat) (σ : St) (B : β) (τ : St) (a1 : Int32) (a2 : Int32), I (n + 1) σ B τ → k_CL_variable a1 a2 σ ∧ k_Mo_variable a1 a2 τ ∧ (f_CL_variable a1 a2 σ).1 = (f_Mo_variable a1 a2 τ).1 ∧ I n (f_CL_variable a1 a2 σ).2 B (f_Mo_variable a1 a2 τ).2
def S_draft {β : Type} (I : Nat → St → β → St → Prop) : Prop := ∀ (n : Nat) (σ : St) (B : β) (τ : St) (a1 : Int64), I (n + 1) σ B τ → k_CL_draft a1 σ ∧ k_Mo_draft a1 τ ∧ (f_CL_draft a1 σ).1 = (f_Mo_draft a1 τ).1 ∧ I n (f_CL_draft a1 σ).2 B (f_Mo_draft a1 τ).2
abbrev cd_term : Nat → Int32 := fun E => if E = 2 then 1 else if E = 3 then 2 else 3
def S_term {β : Type} (I : Nat → St → β → St → Prop) : Prop := ∀ (n : Nat) (σ : St) (B : β) (τ : St), I (n + 1) σ B τ → k_CL_term σ ∧ (∀ E, (f_CL_term σ).1 = .inr E → E = 2 ∨ E = 3 ∨ E = 4) ∧ k_Mo_term τ ∧ Ag (f_CL_term σ) (f_Mo_term τ) cd_term ∧ I n (f_CL_term σ).2 B (f_Mo_term τ).2
theorem ag_term {σ τ : St} {o : Nat → Int64} (h : Ag (f_CL_term σ) (f_Mo_term τ) cd_term) : f_Mo_thrown (f_Mo_term τ).2 = (g_La_term σ o).1 ∧ ((g_La_term σ o).1 = 0 → (g_La_term σ o).2.2 0 = (f_Mo_term τ).1.toInt64) ∧ (g_La_term σ o).2.1 = (f_CL_term σ).2 := by
  cases hz : (f_CL_term σ).1 with
  | inl x =>
    have h1 := h.1 x hz
    simp only [g_La_term, hz]
    exact ⟨h1.1, fun _ => by rw [h1.2]; rfl, trivial⟩
  | inr E =>
    have h1 := h.2 E hz
    simp only [g_La_term, hz]
    exact ⟨h1.1, fun h2 => absurd h2 h1.2, trivial⟩
abbrev cd_assume : Nat → Int32 := fun E => if E = 1 then 1 else if E = 2 then 2 else 3
def S_assume {β : Type} (I : Nat → St → β → St → Prop) : Prop := ∀ (n : Nat) (σ : St) (B : β) (τ : St) (a1 : Int32), I (n + 1) σ B τ → k_CL_assume a1 σ ∧ (∀ E, (f_CL_assume a1 σ).1 = .inr E → E = 1 ∨ E = 2 ∨ E = 4) ∧ k_Mo_assume a1 τ ∧ Ag (f_CL_assume a1 σ) (f_Mo_assume a1 τ) cd_assume ∧ I n (f_CL_assume a1 σ).2 B (f_Mo_assume a1 τ).2
theorem ag_assume {a1 : Int32} {σ τ : St} {o : Nat → Int64} (h : Ag (f_CL_assume a1 σ) (f_Mo_assume a1 τ) cd_assume) : f_Mo_thrown (f_Mo_assume a1 τ).2 = (g_La_assume a1 σ o).1 ∧ ((g_La_assume a1 σ o).1 = 0 → (g_La_assume a1 σ o).2.2 0 = (f_Mo_assume a1 τ).1.toInt64) ∧ (g_La_assume a1 σ o).2.1 = (f_CL_assume a1 σ).2 := by
  cases hz : (f_CL_assume a1 σ).1 with
  | inl x =>
    have h1 := h.1 x hz
    simp only [g_La_assume, hz]
    exact ⟨h1.1, fun _ => by rw [h1.2]; rfl, trivial⟩
  | inr E =>
    have h1 := h.2 E hz
    simp only [g_La_assume, hz]
    exact ⟨h1.1, fun h2 => absurd h2 h1.2, trivial⟩
abbrev cd_cut : Nat → Int32 := fun E => if E = 1 then 1 else if E = 2 then 2 else if E = 3 then 3 else 4
def S_cut {β : Type} (I : Nat → St → β → St → Prop) : Prop := ∀ (n : Nat) (σ : St) (B : β) (τ : St) (a1 : Int32) (a2 : Int32) (a3 : Int32), I (n + 1) σ B τ → k_CL_cut a1 a2 a3 σ ∧ (∀ E, (f_CL_cut a1 a2 a3 σ).1 = .inr E → E = 1 ∨ E = 2 ∨ E = 3 ∨ E = 4) ∧ k_Mo_cut a1 a2 a3 τ ∧ Ag (f_CL_cut a1 a2 a3 σ) (f_Mo_cut a1 a2 a3 τ) cd_cut ∧ I n (f_CL_cut a1 a2 a3 σ).2 B (f_Mo_cut a1 a2 a3 τ).2
theorem ag_cut {a1 : Int32} {a2 : Int32} {a3 : Int32} {σ τ : St} {o : Nat → Int64} (h : Ag (f_CL_cut a1 a2 a3 σ) (f_Mo_cut a1 a2 a3 τ) cd_cut) : f_Mo_thrown (f_Mo_cut a1 a2 a3 τ).2 = (g_La_cut a1 a2 a3 σ o).1 ∧ ((g_La_cut a1 a2 a3 σ o).1 = 0 → (g_La_cut a1 a2 a3 σ o).2.2 0 = (f_Mo_cut a1 a2 a3 τ).1.toInt64) ∧ (g_La_cut a1 a2 a3 σ o).2.1 = (f_CL_cut a1 a2 a3 σ).2 := by
  cases hz : (f_CL_cut a1 a2 a3 σ).1 with
  | inl x =>
    have h1 := h.1 x hz
    simp only [g_La_cut, hz]
    exact ⟨h1.1, fun _ => by rw [h1.2]; rfl, trivial⟩
  | inr E =>
    have h1 := h.2 E hz
    simp only [g_La_cut, hz]
    exact ⟨h1.1, fun h2 => absurd h2 h1.2, trivial⟩
abbrev cd_widen : Nat → Int32 := fun E => if E = 1 then 1 else if E = 2 then 2 else 3
def S_widen {β : Type} (I : Nat → St → β → St → Prop) : Prop := ∀ (n : Nat) (σ : St) (B : β) (τ : St) (a1 : Int32) (a2 : Int32), I (n + 1) σ B τ → k_CL_widen a1 a2 σ ∧ (∀ E, (f_CL_widen a1 a2 σ).1 = .inr E → E = 1 ∨ E = 2 ∨ E = 4) ∧ k_Mo_widen a1 a2 τ ∧ Ag (f_CL_widen a1 a2 σ) (f_Mo_widen a1 a2 τ) cd_widen ∧ I n (f_CL_widen a1 a2 σ).2 B (f_Mo_widen a1 a2 τ).2
theorem ag_widen {a1 : Int32} {a2 : Int32} {σ τ : St} {o : Nat → Int64} (h : Ag (f_CL_widen a1 a2 σ) (f_Mo_widen a1 a2 τ) cd_widen) : f_Mo_thrown (f_Mo_widen a1 a2 τ).2 = (g_La_widen a1 a2 σ o).1 ∧ ((g_La_widen a1 a2 σ o).1 = 0 → (g_La_widen a1 a2 σ o).2.2 0 = (f_Mo_widen a1 a2 τ).1.toInt64) ∧ (g_La_widen a1 a2 σ o).2.1 = (f_CL_widen a1 a2 σ).2 := by
  cases hz : (f_CL_widen a1 a2 σ).1 with
  | inl x =>
    have h1 := h.1 x hz
    simp only [g_La_widen, hz]
    exact ⟨h1.1, fun _ => by rw [h1.2]; rfl, trivial⟩
  | inr E =>
    have h1 := h.2 E hz
    simp only [g_La_widen, hz]
    exact ⟨h1.1, fun h2 => absurd h2 h1.2, trivial⟩
abbrev cd_meaning : Nat → Int32 := fun E => if E = 1 then 1 else if E = 2 then 2 else if E = 3 then 3 else 4
def S_meaning {β : Type} (I : Nat → St → β → St → Prop) : Prop := ∀ (n : Nat) (σ : St) (B : β) (τ : St) (a1 : Int32) (a2 : Int32), I (n + 1) σ B τ → k_CL_meaning a1 a2 σ ∧ (∀ E, (f_CL_meaning a1 a2 σ).1 = .inr E → E = 1 ∨ E = 2 ∨ E = 3 ∨ E = 4) ∧ k_Mo_meaning a1 a2 τ ∧ Ag (f_CL_meaning a1 a2 σ) (f_Mo_meaning a1 a2 τ) cd_meaning ∧ I n (f_CL_meaning a1 a2 σ).2 B (f_Mo_meaning a1 a2 τ).2
theorem ag_meaning {a1 : Int32} {a2 : Int32} {σ τ : St} {o : Nat → Int64} (h : Ag (f_CL_meaning a1 a2 σ) (f_Mo_meaning a1 a2 τ) cd_meaning) : f_Mo_thrown (f_Mo_meaning a1 a2 τ).2 = (g_La_meaning a1 a2 σ o).1 ∧ ((g_La_meaning a1 a2 σ o).1 = 0 → (g_La_meaning a1 a2 σ o).2.2 0 = (f_Mo_meaning a1 a2 τ).1.toInt64) ∧ (g_La_meaning a1 a2 σ o).2.1 = (f_CL_meaning a1 a2 σ).2 := by
  cases hz : (f_CL_meaning a1 a2 σ).1 with
  | inl x =>
    have h1 := h.1 x hz
    simp only [g_La_meaning, hz]
    exact ⟨h1.1, fun _ => by rw [h1.2]; rfl, trivial⟩
  | inr E =>
    have h1 := h.2 E hz
    simp only [g_La_meaning, hz]
    exact ⟨h1.1, fun h2 => absurd h2 h1.2, trivial⟩
abbrev cd_same : Nat → Int32 := fun E => if E = 1 then 1 else if E = 3 then 2 else 3
def S_same {β : Type} (I : Nat → St → β → St → Prop) : Prop := ∀ (n : Nat) (σ : St) (B : β) (τ : St) (a1 : Int32), I (n + 1) σ B τ → k_CL_same a1 σ ∧ (∀ E, (f_CL_same a1 σ).1 = .inr E → E = 1 ∨ E = 3 ∨ E = 4) ∧ k_Mo_same a1 τ ∧ Ag (f_CL_same a1 σ) (f_Mo_same a1 τ) cd_same ∧ I n (f_CL_same a1 σ).2 B (f_Mo_same a1 τ).2
theorem ag_same {a1 : Int32} {σ τ : St} {o : Nat → Int64} (h : Ag (f_CL_same a1 σ) (f_Mo_same a1 τ) cd_same) : f_Mo_thrown (f_Mo_same a1 τ).2 = (g_La_same a1 σ o).1 ∧ ((g_La_same a1 σ o).1 = 0 → (g_La_same a1 σ o).2.2 0 = (f_Mo_same a1 τ).1.toInt64) ∧ (g_La_same a1 σ o).2.1 = (f_CL_same a1 σ).2 := by
  cases hz : (f_CL_same a1 σ).1 with
  | inl x =>
    have h1 := h.1 x hz
    simp only [g_La_same, hz]
    exact ⟨h1.1, fun _ => by rw [h1.2]; rfl, trivial⟩
  | inr E =>
    have h1 := h.2 E hz
    simp only [g_La_same, hz]
    exact ⟨h1.1, fun h2 => absurd h2 h1.2, trivial⟩
abbrev cd_chain : Nat → Int32 := fun E => if E = 1 then 1 else if E = 2 then 2 else if E = 3 then 3 else 4
def S_chain {β : Type} (I : Nat → St → β → St → Prop) : Prop := ∀ (n : Nat) (σ : St) (B : β) (τ : St) (a1 : Int32) (a2 : Int32), I (n + 1) σ B τ → k_CL_chain a1 a2 σ ∧ (∀ E, (f_CL_chain a1 a2 σ).1 = .inr E → E = 1 ∨ E = 2 ∨ E = 3 ∨ E = 4) ∧ k_Mo_chain a1 a2 τ ∧ Ag (f_CL_chain a1 a2 σ) (f_Mo_chain a1 a2 τ) cd_chain ∧ I n (f_CL_chain a1 a2 σ).2 B (f_Mo_chain a1 a2 τ).2
theorem ag_chain {a1 : Int32} {a2 : Int32} {σ τ : St} {o : Nat → Int64} (h : Ag (f_CL_chain a1 a2 σ) (f_Mo_chain a1 a2 τ) cd_chain) : f_Mo_thrown (f_Mo_chain a1 a2 τ).2 = (g_La_chain a1 a2 σ o).1 ∧ ((g_La_chain a1 a2 σ o).1 = 0 → (g_La_chain a1 a2 σ o).2.2 0 = (f_Mo_chain a1 a2 τ).1.toInt64) ∧ (g_La_chain a1 a2 σ o).2.1 = (f_CL_chain a1 a2 σ).2 := by
  cases hz : (f_CL_chain a1 a2 σ).1 with
  | inl x =>
    have h1 := h.1 x hz
    simp only [g_La_chain, hz]
    exact ⟨h1.1, fun _ => by rw [h1.2]; rfl, trivial⟩
  | inr E =>
    have h1 := h.2 E hz
    simp only [g_La_chain, hz]
    exact ⟨h1.1, fun h2 => absurd h2 h1.2, trivial⟩
abbrev cd_turn : Nat → Int32 := fun E => if E = 1 then 1 else if E = 2 then 2 else if E = 3 then 3 else 4
def S_turn {β : Type} (I : Nat → St → β → St → Prop) : Prop := ∀ (n : Nat) (σ : St) (B : β) (τ : St) (a1 : Int32), I (n + 1) σ B τ → k_CL_turn a1 σ ∧ (∀ E, (f_CL_turn a1 σ).1 = .inr E → E = 1 ∨ E = 2 ∨ E = 3 ∨ E = 4) ∧ k_Mo_turn a1 τ ∧ Ag (f_CL_turn a1 σ) (f_Mo_turn a1 τ) cd_turn ∧ I n (f_CL_turn a1 σ).2 B (f_Mo_turn a1 τ).2
theorem ag_turn {a1 : Int32} {σ τ : St} {o : Nat → Int64} (h : Ag (f_CL_turn a1 σ) (f_Mo_turn a1 τ) cd_turn) : f_Mo_thrown (f_Mo_turn a1 τ).2 = (g_La_turn a1 σ o).1 ∧ ((g_La_turn a1 σ o).1 = 0 → (g_La_turn a1 σ o).2.2 0 = (f_Mo_turn a1 τ).1.toInt64) ∧ (g_La_turn a1 σ o).2.1 = (f_CL_turn a1 σ).2 := by
  cases hz : (f_CL_turn a1 σ).1 with
  | inl x =>
    have h1 := h.1 x hz
    simp only [g_La_turn, hz]
    exact ⟨h1.1, fun _ => by rw [h1.2]; rfl, trivial⟩
  | inr E =>
    have h1 := h.2 E hz
    simp only [g_La_turn, hz]
    exact ⟨h1.1, fun h2 => absurd h2 h1.2, trivial⟩
abbrev cd_replace : Nat → Int32 := fun E => if E = 1 then 1 else if E = 2 then 2 else if E = 3 then 3 else 4
def S_replace {β : Type} (I : Nat → St → β → St → Prop) : Prop := ∀ (n : Nat) (σ : St) (B : β) (τ : St) (a1 : Int32) (a2 : Int32), I (n + 1) σ B τ → k_CL_replace a1 a2 σ ∧ (∀ E, (f_CL_replace a1 a2 σ).1 = .inr E → E = 1 ∨ E = 2 ∨ E = 3 ∨ E = 4) ∧ k_Mo_replace a1 a2 τ ∧ Ag (f_CL_replace a1 a2 σ) (f_Mo_replace a1 a2 τ) cd_replace ∧ I n (f_CL_replace a1 a2 σ).2 B (f_Mo_replace a1 a2 τ).2
theorem ag_replace {a1 : Int32} {a2 : Int32} {σ τ : St} {o : Nat → Int64} (h : Ag (f_CL_replace a1 a2 σ) (f_Mo_replace a1 a2 τ) cd_replace) : f_Mo_thrown (f_Mo_replace a1 a2 τ).2 = (g_La_replace a1 a2 σ o).1 ∧ ((g_La_replace a1 a2 σ o).1 = 0 → (g_La_replace a1 a2 σ o).2.2 0 = (f_Mo_replace a1 a2 τ).1.toInt64) ∧ (g_La_replace a1 a2 σ o).2.1 = (f_CL_replace a1 a2 σ).2 := by
  cases hz : (f_CL_replace a1 a2 σ).1 with
  | inl x =>
    have h1 := h.1 x hz
    simp only [g_La_replace, hz]
    exact ⟨h1.1, fun _ => by rw [h1.2]; rfl, trivial⟩
  | inr E =>
    have h1 := h.2 E hz
    simp only [g_La_replace, hz]
    exact ⟨h1.1, fun h2 => absurd h2 h1.2, trivial⟩
abbrev cd_linear : Nat → Int32 := fun E => if E = 1 then 1 else if E = 2 then 2 else if E = 3 then 3 else 4
theorem ag_linear {a1 : Int32} {a2 : Int32} {a3 : Int32} {a4 : Int32} {a5 : Int32} {a6 : Int32} {σ τ : St} {o : Nat → Int64} (h : Ag (f_CL_linear a1 a2 a3 a4 a5 a6 σ) (f_Mo_linear a1 a2 a3 a4 a5 a6 τ) cd_linear) : f_Mo_thrown (f_Mo_linear a1 a2 a3 a4 a5 a6 τ).2 = (g_La_linear a1 a2 a3 a4 a5 a6 σ o).1 ∧ ((g_La_linear a1 a2 a3 a4 a5 a6 σ o).1 = 0 → (g_La_linear a1 a2 a3 a4 a5 a6 σ o).2.2 0 = (f_Mo_linear a1 a2 a3 a4 a5 a6 τ).1.toInt64) ∧ (g_La_linear a1 a2 a3 a4 a5 a6 σ o).2.1 = (f_CL_linear a1 a2 a3 a4 a5 a6 σ).2 := by
  cases hz : (f_CL_linear a1 a2 a3 a4 a5 a6 σ).1 with
  | inl x =>
    have h1 := h.1 x hz
    simp only [g_La_linear, hz]
    exact ⟨h1.1, fun _ => by rw [h1.2]; rfl, trivial⟩
  | inr E =>
    have h1 := h.2 E hz
    simp only [g_La_linear, hz]
    exact ⟨h1.1, fun h2 => absurd h2 h1.2, trivial⟩
abbrev cd_instance : Nat → Int32 := fun E => if E = 1 then 1 else if E = 2 then 2 else if E = 3 then 3 else 4
def S_instance {β : Type} (I : Nat → St → β → St → Prop) : Prop := ∀ (n : Nat) (σ : St) (B : β) (τ : St) (a1 : Int32) (a2 : Int32), I (n + 1) σ B τ → k_CL_instance a1 a2 σ ∧ (∀ E, (f_CL_instance a1 a2 σ).1 = .inr E → E = 1 ∨ E = 2 ∨ E = 3 ∨ E = 4) ∧ k_Mo_instance a1 a2 τ ∧ Ag (f_CL_instance a1 a2 σ) (f_Mo_instance a1 a2 τ) cd_instance ∧ I n (f_CL_instance a1 a2 σ).2 B (f_Mo_instance a1 a2 τ).2
theorem ag_instance {a1 : Int32} {a2 : Int32} {σ τ : St} {o : Nat → Int64} (h : Ag (f_CL_instance a1 a2 σ) (f_Mo_instance a1 a2 τ) cd_instance) : f_Mo_thrown (f_Mo_instance a1 a2 τ).2 = (g_La_instance a1 a2 σ o).1 ∧ ((g_La_instance a1 a2 σ o).1 = 0 → (g_La_instance a1 a2 σ o).2.2 0 = (f_Mo_instance a1 a2 τ).1.toInt64) ∧ (g_La_instance a1 a2 σ o).2.1 = (f_CL_instance a1 a2 σ).2 := by
  cases hz : (f_CL_instance a1 a2 σ).1 with
  | inl x =>
    have h1 := h.1 x hz
    simp only [g_La_instance, hz]
    exact ⟨h1.1, fun _ => by rw [h1.2]; rfl, trivial⟩
  | inr E =>
    have h1 := h.2 E hz
    simp only [g_La_instance, hz]
    exact ⟨h1.1, fun h2 => absurd h2 h1.2, trivial⟩
abbrev cd_open : Nat → Int32 := fun E => 1
def S_open {β : Type} (I : Nat → St → β → St → Prop) : Prop := ∀ (n : Nat) (σ : St) (B : β) (τ : St), I (n + 1) σ B τ → k_CL_open σ ∧ (∀ E, (f_CL_open σ).1 = .inr E → E = 4) ∧ k_Mo_open τ ∧ Ag (f_CL_open σ) (f_Mo_open τ) cd_open ∧ I n (f_CL_open σ).2 B (f_Mo_open τ).2
theorem ag_open {σ τ : St} {o : Nat → Int64} (h : Ag (f_CL_open σ) (f_Mo_open τ) cd_open) : f_Mo_thrown (f_Mo_open τ).2 = (g_La_open σ o).1 ∧ ((g_La_open σ o).1 = 0 → (g_La_open σ o).2.2 0 = (f_Mo_open τ).1.toInt64) ∧ (g_La_open σ o).2.1 = (f_CL_open σ).2 := by
  cases hz : (f_CL_open σ).1 with
  | inl x =>
    have h1 := h.1 x hz
    simp only [g_La_open, hz]
    exact ⟨h1.1, fun _ => by rw [h1.2]; rfl, trivial⟩
  | inr E =>
    have h1 := h.2 E hz
    simp only [g_La_open, hz]
    exact ⟨h1.1, fun h2 => absurd h2 h1.2, trivial⟩
abbrev cd_close : Nat → Int32 := fun E => if E = 2 then 1 else if E = 3 then 2 else 3
def S_close {β : Type} (I : Nat → St → β → St → Prop) : Prop := ∀ (n : Nat) (σ : St) (B : β) (τ : St), I (n + 1) σ B τ → k_CL_close σ ∧ (∀ E, (f_CL_close σ).1 = .inr E → E = 2 ∨ E = 3 ∨ E = 4) ∧ k_Mo_close τ ∧ Ag (f_CL_close σ) (f_Mo_close τ) cd_close ∧ I n (f_CL_close σ).2 B (f_Mo_close τ).2
theorem ag_close {σ τ : St} {o : Nat → Int64} (h : Ag (f_CL_close σ) (f_Mo_close τ) cd_close) : f_Mo_thrown (f_Mo_close τ).2 = (g_La_close σ o).1 ∧ ((g_La_close σ o).1 = 0 → (g_La_close σ o).2.2 0 = (f_Mo_close τ).1.toInt64) ∧ (g_La_close σ o).2.1 = (f_CL_close σ).2 := by
  cases hz : (f_CL_close σ).1 with
  | inl x =>
    have h1 := h.1 x hz
    simp only [g_La_close, hz]
    exact ⟨h1.1, fun _ => by rw [h1.2]; rfl, trivial⟩
  | inr E =>
    have h1 := h.2 E hz
    simp only [g_La_close, hz]
    exact ⟨h1.1, fun h2 => absurd h2 h1.2, trivial⟩
def S_clause {β : Type} (I : Nat → St → β → St → Prop) : Prop := ∀ (n : Nat) (σ : St) (B : β) (τ : St) (a1 : Int32) (a2 : Int32), I (n + 1) σ B τ → k_CL_clause a1 a2 σ ∧ k_Mo_clause a1 a2 τ ∧ f_CL_clause a1 a2 σ = (f_Mo_clause a1 a2 τ).1 ∧ I n σ B (f_Mo_clause a1 a2 τ).2
def S_scope {β : Type} (I : Nat → St → β → St → Prop) : Prop := ∀ (n : Nat) (σ : St) (B : β) (τ : St) (a1 : Int32), I (n + 1) σ B τ → k_CL_scope a1 σ ∧ k_Mo_scope a1 τ ∧ f_CL_scope a1 σ = (f_Mo_scope a1 τ).1 ∧ I n σ B (f_Mo_scope a1 τ).2
def S_empty {β : Type} (I : Nat → St → β → St → Prop) : Prop := ∀ (n : Nat) (σ : St) (B : β) (τ : St), I (n + 1) σ B τ → k_CL_empty σ ∧ k_Mo_empty τ ∧ f_CL_empty σ = (f_Mo_empty τ).1 ∧ I n σ B (f_Mo_empty τ).2
def S_look {β : Type} (I : Nat → St → β → St → Prop) : Prop := ∀ (n : Nat) (σ : St) (B : β) (τ : St) (a1 : Int32) (a2 : Int32), I (n + 1) σ B τ → k_CL_look a1 a2 σ ∧ k_Mo_look a1 a2 τ ∧ f_CL_look a1 a2 σ = (f_Mo_look a1 a2 τ).1 ∧ I n σ B (f_Mo_look a1 a2 τ).2
def S_text {β : Type} (I : Nat → St → β → St → Prop) : Prop := ∀ (n : Nat) (σ : St) (B : β) (τ : St) (a1 : Int32) (a2 : Int32), I (n + 1) σ B τ → k_CL_text a1 a2 σ ∧ k_Mo_text a1 a2 τ ∧ f_CL_text a1 a2 σ = (f_Mo_text a1 a2 τ).1 ∧ I n σ B (f_Mo_text a1 a2 τ).2
def S_default {β : Type} (I : Nat → St → β → St → Prop) : Prop := ∀ (n : Nat) (σ : St) (B : β) (τ : St), I (n + 1) σ B τ → I n σ B τ
/-- what an invariant must give for every call but linear -/
def S_all {β : Type} (I : Nat → St → β → St → Prop) : Prop := S_default I ∧ S_sort I ∧ S_symbol I ∧ S_variable I ∧ S_draft I ∧ S_term I ∧ S_assume I ∧ S_cut I ∧ S_widen I ∧ S_meaning I ∧ S_same I ∧ S_chain I ∧ S_turn I ∧ S_replace I ∧ S_instance I ∧ S_open I ∧ S_close I ∧ S_clause I ∧ S_scope I ∧ S_empty I ∧ S_look I ∧ S_text I
theorem la_cmp {L i : Nat} (hL : L < 2 ^ 31) (hi : i < 2 ^ 31) : (Int32.ofNat L - 7 < nI i) ↔ L < i + 7 := by
  have h1 : (Int32.ofNat L).toInt = (L : Int) := nI_toInt hL
  have h2 : (nI i).toInt = (i : Int) := nI_toInt hi
  have h3 : (7 : Int32).toInt = 7 := by decide
  rw [Int32.lt_iff_toInt_lt, Int32.toInt_sub, h1, h2, h3]
  have h4 : ((L : Int) - 7).bmod (2 ^ 32) = (L : Int) - 7 := by
    rw [Int.bmod_def]; omega
  rw [h4]; omega
/-- the walk of the call of linear, from its first instruction on; the balance may change and use room -/
def H_linear {β : Type} (PX : β → va_W) (cst sst : β → Nat) (I : Nat → St → β → St → Prop) (p : Program) (l : Launch) (e : Env) (s : State) (m : MethodId) (args : Array Value) (below : List Frame) (meth : Method) (c : Code) (Q : State → Prop) (b L ho : Nat) (D : va_G) (ty h g : Nat → Nat) : Prop :=
  ∀ (n i : Nat) (σ : St) (B : β) (τ : St) (o : Nat → Int64) (H : Heap) (locs : List Loc) (ls : Array Slot) (cells slots : Nat), i + 7 ≤ L → I (n + 1) σ B τ → cells + (n + 1) + cst B ≤ room_1.cells → slots + 6 * (n + 1) + sst B ≤ room_1.slots → lv_has ls 7 [(0, .ref b), (1, .ref (h 0)), (2, .ref (g 0)), (3, .ref ho), (4, .int (nI i))] → va_P D classes (Wc ty h σ ((ho, .inl (ty 1, 1, .inr (.inl o))) :: (PX B ++ Wm ty g (τ) []))) H → va_D (lA s) (Wc ty h σ ((ho, .inl (ty 1, 1, .inr (.inl o))) :: (PX B ++ Wm ty g (τ) []))) → va_S (lA s) s.heap H locs →
    (∀ (σ : St) (B : β) (τ : St) (o : Nat → Int64) (H : Heap) (locs : List Loc) (ls : Array Slot) (cells slots : Nat), I n σ B τ → cells + n + cst B ≤ room_1.cells → slots + 6 * n + sst B ≤ room_1.slots → lv_has ls 7 [(0, .ref b), (1, .ref (h 0)), (2, .ref (g 0)), (3, .ref ho), (4, .int (nI i))] → va_P D classes (Wc ty h σ ((ho, .inl (ty 1, 1, .inr (.inl o))) :: (PX B ++ Wm ty g (τ) []))) H → va_D (lA s) (Wc ty h σ ((ho, .inl (ty 1, 1, .inr (.inl o))) :: (PX B ++ Wm ty g (τ) []))) → va_S (lA s) s.heap H locs → W p l e room_1 s m args below meth c H locs cells slots Q (F0 m 979 ls [])) →
    W p l e room_1 s m args below meth c H locs cells slots Q (F0 m 864 ls [])
set_option maxHeartbeats 4000000 in
set_option maxRecDepth 100000 in
theorem la_loop {p : Program} {l : Launch} {e : Env} {s : State} {m : MethodId} {args : Array Value} {below : List Frame} {meth : Method} {c : Code} {Q : State → Prop} {b L ho : Nat} {xs : Nat → Int32} {D : va_G} {ty sa h g : Nat → Nat} {β : Type} {PX : β → va_W} {cst sst : β → Nat} {I : Nat → St → β → St → Prop} (hlt : l.stackTraces = false) (C : lwC p s m args c b L xs D ty sa) (hL : L < 2 ^ 31 - 7) (S : S_all I) (HL : H_linear PX cst sst I p l e s m args below meth c Q b L ho D ty h g)
    (hEnd : ∀ (H : Heap) (locs : List Loc) (ls : Array Slot) (cells slots : Nat), va_S (lA s) s.heap H locs → cells ≤ room_1.cells → slots ≤ room_1.slots → W p l e room_1 s m args below meth c H locs cells slots Q (F0 m 1293 ls [])) : ∀ n : Nat, ∀ (i : Nat) (σ : St) (B : β) (τ : St) (o : Nat → Int64) (H : Heap) (locs : List Loc) (ls : Array Slot) (cells slots : Nat), i + 7 * n ≤ L → L < i + 7 * n + 7 → I n σ B τ → cells + n + cst B ≤ room_1.cells → slots + 6 * n + sst B ≤ room_1.slots → lv_has ls 7 [(0, .ref b), (1, .ref (h 0)), (2, .ref (g 0)), (3, .ref ho), (4, .int (nI i))] → va_P D classes (Wc ty h σ ((ho, .inl (ty 1, 1, .inr (.inl o))) :: (PX B ++ Wm ty g (τ) []))) H → va_D (lA s) (Wc ty h σ ((ho, .inl (ty 1, 1, .inr (.inl o))) :: (PX B ++ Wm ty g (τ) []))) → va_S (lA s) s.heap H locs → W p l e room_1 s m args below meth c H locs cells slots Q (F0 m 23 ls []) := by
  intro n
  induction n with
  | zero =>
    intro i σ B τ o H locs ls cells slots h1 h2 hI hcl hsl hl hP hD hS
    obtain ⟨hx, hb, hml, hown, hg, hXs, hbl, hK, hN, hNC, hXK, hM⟩ := C
    refine lv_iload hx hb d_La_law_23 (lv_at hl 4 rfl) ?_
    refine lv_aload_n hx hb d_La_law_25 rfl (lv_at hl 0 rfl) ?_
    refine va_slen hx hb hXs hbl (fun h9 => absurd hbl (Nat.not_lt.mpr h9)) hS d_La_law_26 ?_
    refine lv_bipush (v := 7) hx hb d_La_law_27 (by decide) ?_
    refine lv_isub hx hb d_La_law_29 ?_
    refine lv_icmp_gt (tgt := 1293) hx hb d_La_law_30 (by decide) (fun hc => ?_) (fun hc => ?_)
    · exact hEnd _ _ _ _ _ hS (by omega) (by omega)
    · exact absurd ((la_cmp (by omega) (by omega)).mpr (by omega)) hc
  | succ n ih =>
    intro i σ B τ o H locs ls cells slots h1 h2 hI hcl hsl hl hP hD hS
    have hi : i + 7 ≤ L := by omega
    have C0 := C
    obtain ⟨hx, hb, hml, hown, hg, hXs, hbl, hK, hN, hNC, hXK, hM⟩ := C
    refine lv_iload hx hb d_La_law_23 (lv_at hl 4 rfl) ?_
    refine lv_aload_n hx hb d_La_law_25 rfl (lv_at hl 0 rfl) ?_
    refine va_slen hx hb hXs hbl (fun h9 => absurd hbl (Nat.not_lt.mpr h9)) hS d_La_law_26 ?_
    refine lv_bipush (v := 7) hx hb d_La_law_27 (by decide) ?_
    refine lv_isub hx hb d_La_law_29 ?_
    refine lv_icmp_gt (tgt := 1293) hx hb d_La_law_30 (by decide) (fun hc => ?_) (fun hc => ?_)
    · exact absurd ((la_cmp (by omega) (by omega)).mp hc) (by omega)
    · clear hc
      refine lv_aload_n hx hb d_La_law_33 rfl (lv_at hl 0 rfl) ?_
      refine lv_iload hx hb d_La_law_34 (lv_at hl 4 rfl) ?_
      refine la_ld0 hx hb hXs hbl hS (by omega) (by omega) d_La_law_36 ?_
      refine lv_bipush (v := 31) hx hb d_La_law_37 (by decide) ?_
      refine lv_iand hx hb d_La_law_39 ?_
      have back : ∀ (σ : St) (B : β) (τ : St) (o : Nat → Int64) (H : Heap) (locs : List Loc) (ls : Array Slot) (cells slots : Nat), I n σ B τ → cells + n + cst B ≤ room_1.cells → slots + 6 * n + sst B ≤ room_1.slots → lv_has ls 7 [(0, .ref b), (1, .ref (h 0)), (2, .ref (g 0)), (3, .ref ho), (4, .int (nI i))] → va_P D classes (Wc ty h σ ((ho, .inl (ty 1, 1, .inr (.inl o))) :: (PX B ++ Wm ty g (τ) []))) H → va_D (lA s) (Wc ty h σ ((ho, .inl (ty 1, 1, .inr (.inl o))) :: (PX B ++ Wm ty g (τ) []))) → va_S (lA s) s.heap H locs → W p l e room_1 s m args below meth c H locs cells slots Q (F0 m 1287 ls []) := by
        intro σ B τ o H locs ls cells slots hI hcl hsl hl hP hD hS
        refine lv_iinc (k := 4) (v := nI (i + 7)) (lv' := [(4, .int (nI (i + 7))), (0, .ref b), (1, .ref (h 0)), (2, .ref (g 0)), (3, .ref ho)]) hx hb d_La_law_1287 hl rfl (nI_plus i 7) (by decide) rfl (fun ls hl => ?_)
        refine lv_goto (tgt := 23) hx hb d_La_law_1290 (by decide) ?_
        exact ih (i + 7) σ B τ o H locs ls cells slots (by omega) (by omega) hI hcl hsl (lv_sub hl [1, 2, 3, 4, 0] rfl) hP hD hS
      generalize hop : xs i &&& 31 = op
      clear hop
      by_cases hc0 : op = 0
      · refine lv_tableIn (tgt := 144) hx hb d_La_law_40 (by rw [hc0]; decide) (by rw [hc0]; decide) (by rw [hc0]; rfl) (by decide) ?_
        obtain ⟨hk1, hk2, hA1, hI1⟩ := S.2.1 n σ B τ  hI
        refine la_0 hlt C0 hi (by omega) (by omega) (by omega) hl hP hD hS hk1 hk2 hA1 (fun H locs ls hl hP hD hS => ?_)
        skip
        exact back _ _ _ _ _ _ _ _ _ hI1 (by omega) (by omega) hl hP hD hS
      by_cases hc1 : op = 1
      · refine lv_tableIn (tgt := 157) hx hb d_La_law_40 (by rw [hc1]; decide) (by rw [hc1]; decide) (by rw [hc1]; rfl) (by decide) ?_
        obtain ⟨hk1, hk2, hA1, hI1⟩ := S.2.2.1 n σ B τ (xs (i + 1)) (xs (i + 2)) (xs (i + 3)) hI
        refine la_1 hlt C0 hi (by omega) (by omega) (by omega) hl hP hD hS hk1 hk2 hA1 (fun H locs ls hl hP hD hS => ?_)
        skip
        exact back _ _ _ _ _ _ _ _ _ hI1 (by omega) (by omega) hl hP hD hS
      by_cases hc2 : op = 2
      · refine lv_tableIn (tgt := 206) hx hb d_La_law_40 (by rw [hc2]; decide) (by rw [hc2]; decide) (by rw [hc2]; rfl) (by decide) ?_
        obtain ⟨hk1, hk2, hA1, hI1⟩ := S.2.2.2.1 n σ B τ (xs (i + 1)) (xs (i + 2)) hI
        refine la_2 hlt C0 hi (by omega) (by omega) (by omega) hl hP hD hS hk1 hk2 hA1 (fun H locs ls hl hP hD hS => ?_)
        skip
        exact back _ _ _ _ _ _ _ _ _ hI1 (by omega) (by omega) hl hP hD hS
      by_cases hc3 : op = 3
      · refine lv_tableIn (tgt := 243) hx hb d_La_law_40 (by rw [hc3]; decide) (by rw [hc3]; decide) (by rw [hc3]; rfl) (by decide) ?_
        obtain ⟨hk1, hk2, hA1, hI1⟩ := S.2.2.2.2.1 n σ B τ (((xs (i + 1)).toInt64 <<< ((32 : Int32).toInt64 &&& 63)) ||| ((xs (i + 2)).toInt64 &&& 4294967295)) hI
        refine la_3 hlt C0 hi (by omega) (by omega) (by omega) hl hP hD hS hk1 hk2 hA1 (fun H locs ls hl hP hD hS => ?_)
        skip
        exact back _ _ _ _ _ _ _ _ _ hI1 (by omega) (by omega) hl hP hD hS
      by_cases hc4 : op = 4
      · refine lv_tableIn (tgt := 300) hx hb d_La_law_40 (by rw [hc4]; decide) (by rw [hc4]; decide) (by rw [hc4]; rfl) (by decide) ?_
        obtain ⟨hk1, hE, hk2, hAg, hI1⟩ := S.2.2.2.2.2.1 n σ B τ  hI
        obtain ⟨hA1, hA2, hst⟩ := ag_term (o := o) hAg
        rw [← hst] at hI1
        refine la_4 hlt C0 hi (by omega) (by omega) (by omega) hl hP hD hS hk1 hE hk2 hA1 hA2 (fun H locs ls hl hP hD hS => ?_)
        refine lv_goto (tgt := 1287) hx hb d_La_law_341 (by decide) ?_
        exact back _ _ _ _ _ _ _ _ _ hI1 (by omega) (by omega) hl hP hD hS
      by_cases hc5 : op = 5
      · refine lv_tableIn (tgt := 344) hx hb d_La_law_40 (by rw [hc5]; decide) (by rw [hc5]; decide) (by rw [hc5]; rfl) (by decide) ?_
        obtain ⟨hk1, hE, hk2, hAg, hI1⟩ := S.2.2.2.2.2.2.1 n σ B τ (xs (i + 1)) hI
        obtain ⟨hA1, hA2, hst⟩ := ag_assume (o := o) hAg
        rw [← hst] at hI1
        refine la_5 hlt C0 hi (by omega) (by omega) (by omega) hl hP hD hS hk1 hE hk2 hA1 hA2 (fun H locs ls hl hP hD hS => ?_)
        refine lv_goto (tgt := 1287) hx hb d_La_law_397 (by decide) ?_
        exact back _ _ _ _ _ _ _ _ _ hI1 (by omega) (by omega) hl hP hD hS
      by_cases hc6 : op = 6
      · refine lv_tableIn (tgt := 400) hx hb d_La_law_40 (by rw [hc6]; decide) (by rw [hc6]; decide) (by rw [hc6]; rfl) (by decide) ?_
        obtain ⟨hk1, hE, hk2, hAg, hI1⟩ := S.2.2.2.2.2.2.2.1 n σ B τ (xs (i + 1)) (xs (i + 2)) (xs (i + 3)) hI
        obtain ⟨hA1, hA2, hst⟩ := ag_cut (o := o) hAg
        rw [← hst] at hI1
        refine la_6 hlt C0 hi (by omega) (by omega) (by omega) hl hP hD hS hk1 hE hk2 hA1 hA2 (fun H locs ls hl hP hD hS => ?_)
        refine lv_goto (tgt := 1287) hx hb d_La_law_477 (by decide) ?_
        exact back _ _ _ _ _ _ _ _ _ hI1 (by omega) (by omega) hl hP hD hS
      by_cases hc7 : op = 7
      · refine lv_tableIn (tgt := 480) hx hb d_La_law_40 (by rw [hc7]; decide) (by rw [hc7]; decide) (by rw [hc7]; rfl) (by decide) ?_
        obtain ⟨hk1, hE, hk2, hAg, hI1⟩ := S.2.2.2.2.2.2.2.2.1 n σ B τ (xs (i + 1)) (xs (i + 2)) hI
        obtain ⟨hA1, hA2, hst⟩ := ag_widen (o := o) hAg
        rw [← hst] at hI1
        refine la_7 hlt C0 hi (by omega) (by omega) (by omega) hl hP hD hS hk1 hE hk2 hA1 hA2 (fun H locs ls hl hP hD hS => ?_)
        refine lv_goto (tgt := 1287) hx hb d_La_law_545 (by decide) ?_
        exact back _ _ _ _ _ _ _ _ _ hI1 (by omega) (by omega) hl hP hD hS
      by_cases hc8 : op = 8
      · refine lv_tableIn (tgt := 548) hx hb d_La_law_40 (by rw [hc8]; decide) (by rw [hc8]; decide) (by rw [hc8]; rfl) (by decide) ?_
        obtain ⟨hk1, hE, hk2, hAg, hI1⟩ := S.2.2.2.2.2.2.2.2.2.1 n σ B τ (xs (i + 1)) (xs (i + 2)) hI
        obtain ⟨hA1, hA2, hst⟩ := ag_meaning (o := o) hAg
        rw [← hst] at hI1
        refine la_8 hlt C0 hi (by omega) (by omega) (by omega) hl hP hD hS hk1 hE hk2 hA1 hA2 (fun H locs ls hl hP hD hS => ?_)
        refine lv_goto (tgt := 1287) hx hb d_La_law_613 (by decide) ?_
        exact back _ _ _ _ _ _ _ _ _ hI1 (by omega) (by omega) hl hP hD hS
      by_cases hc9 : op = 9
      · refine lv_tableIn (tgt := 616) hx hb d_La_law_40 (by rw [hc9]; decide) (by rw [hc9]; decide) (by rw [hc9]; rfl) (by decide) ?_
        obtain ⟨hk1, hE, hk2, hAg, hI1⟩ := S.2.2.2.2.2.2.2.2.2.2.1 n σ B τ (xs (i + 1)) hI
        obtain ⟨hA1, hA2, hst⟩ := ag_same (o := o) hAg
        rw [← hst] at hI1
        refine la_9 hlt C0 hi (by omega) (by omega) (by omega) hl hP hD hS hk1 hE hk2 hA1 hA2 (fun H locs ls hl hP hD hS => ?_)
        refine lv_goto (tgt := 1287) hx hb d_La_law_669 (by decide) ?_
        exact back _ _ _ _ _ _ _ _ _ hI1 (by omega) (by omega) hl hP hD hS
      by_cases hc10 : op = 10
      · refine lv_tableIn (tgt := 672) hx hb d_La_law_40 (by rw [hc10]; decide) (by rw [hc10]; decide) (by rw [hc10]; rfl) (by decide) ?_
        obtain ⟨hk1, hE, hk2, hAg, hI1⟩ := S.2.2.2.2.2.2.2.2.2.2.2.1 n σ B τ (xs (i + 1)) (xs (i + 2)) hI
        obtain ⟨hA1, hA2, hst⟩ := ag_chain (o := o) hAg
        rw [← hst] at hI1
        refine la_10 hlt C0 hi (by omega) (by omega) (by omega) hl hP hD hS hk1 hE hk2 hA1 hA2 (fun H locs ls hl hP hD hS => ?_)
        refine lv_goto (tgt := 1287) hx hb d_La_law_737 (by decide) ?_
        exact back _ _ _ _ _ _ _ _ _ hI1 (by omega) (by omega) hl hP hD hS
      by_cases hc11 : op = 11
      · refine lv_tableIn (tgt := 740) hx hb d_La_law_40 (by rw [hc11]; decide) (by rw [hc11]; decide) (by rw [hc11]; rfl) (by decide) ?_
        obtain ⟨hk1, hE, hk2, hAg, hI1⟩ := S.2.2.2.2.2.2.2.2.2.2.2.2.1 n σ B τ (xs (i + 1)) hI
        obtain ⟨hA1, hA2, hst⟩ := ag_turn (o := o) hAg
        rw [← hst] at hI1
        refine la_11 hlt C0 hi (by omega) (by omega) (by omega) hl hP hD hS hk1 hE hk2 hA1 hA2 (fun H locs ls hl hP hD hS => ?_)
        refine lv_goto (tgt := 1287) hx hb d_La_law_793 (by decide) ?_
        exact back _ _ _ _ _ _ _ _ _ hI1 (by omega) (by omega) hl hP hD hS
      by_cases hc12 : op = 12
      · refine lv_tableIn (tgt := 796) hx hb d_La_law_40 (by rw [hc12]; decide) (by rw [hc12]; decide) (by rw [hc12]; rfl) (by decide) ?_
        obtain ⟨hk1, hE, hk2, hAg, hI1⟩ := S.2.2.2.2.2.2.2.2.2.2.2.2.2.1 n σ B τ (xs (i + 1)) (xs (i + 2)) hI
        obtain ⟨hA1, hA2, hst⟩ := ag_replace (o := o) hAg
        rw [← hst] at hI1
        refine la_12 hlt C0 hi (by omega) (by omega) (by omega) hl hP hD hS hk1 hE hk2 hA1 hA2 (fun H locs ls hl hP hD hS => ?_)
        refine lv_goto (tgt := 1287) hx hb d_La_law_861 (by decide) ?_
        exact back _ _ _ _ _ _ _ _ _ hI1 (by omega) (by omega) hl hP hD hS
      by_cases hc13 : op = 13
      · refine lv_tableIn (tgt := 864) hx hb d_La_law_40 (by rw [hc13]; decide) (by rw [hc13]; decide) (by rw [hc13]; rfl) (by decide) ?_
        refine HL n i σ B τ o H locs ls cells slots hi hI hcl hsl hl hP hD hS (fun σ B τ o H locs ls cells slots hI hcl hsl hl hP hD hS => ?_)
        refine lv_goto (tgt := 1287) hx hb d_La_law_979 (by decide) ?_
        exact back σ B τ o H locs ls cells slots hI hcl hsl hl hP hD hS
      by_cases hc14 : op = 14
      · refine lv_tableIn (tgt := 982) hx hb d_La_law_40 (by rw [hc14]; decide) (by rw [hc14]; decide) (by rw [hc14]; rfl) (by decide) ?_
        obtain ⟨hk1, hE, hk2, hAg, hI1⟩ := S.2.2.2.2.2.2.2.2.2.2.2.2.2.2.1 n σ B τ (xs (i + 1)) (xs (i + 2)) hI
        obtain ⟨hA1, hA2, hst⟩ := ag_instance (o := o) hAg
        rw [← hst] at hI1
        refine la_14 hlt C0 hi (by omega) (by omega) (by omega) hl hP hD hS hk1 hE hk2 hA1 hA2 (fun H locs ls hl hP hD hS => ?_)
        refine lv_goto (tgt := 1287) hx hb d_La_law_1047 (by decide) ?_
        exact back _ _ _ _ _ _ _ _ _ hI1 (by omega) (by omega) hl hP hD hS
      by_cases hc15 : op = 15
      · refine lv_tableIn (tgt := 1050) hx hb d_La_law_40 (by rw [hc15]; decide) (by rw [hc15]; decide) (by rw [hc15]; rfl) (by decide) ?_
        obtain ⟨hk1, hE, hk2, hAg, hI1⟩ := S.2.2.2.2.2.2.2.2.2.2.2.2.2.2.2.1 n σ B τ  hI
        obtain ⟨hA1, hA2, hst⟩ := ag_open (o := o) hAg
        rw [← hst] at hI1
        refine la_15 hlt C0 hi (by omega) (by omega) (by omega) hl hP hD hS hk1 hE hk2 hA1 hA2 (fun H locs ls hl hP hD hS => ?_)
        refine lv_goto (tgt := 1287) hx hb d_La_law_1091 (by decide) ?_
        exact back _ _ _ _ _ _ _ _ _ hI1 (by omega) (by omega) hl hP hD hS
      by_cases hc16 : op = 16
      · refine lv_tableIn (tgt := 1094) hx hb d_La_law_40 (by rw [hc16]; decide) (by rw [hc16]; decide) (by rw [hc16]; rfl) (by decide) ?_
        obtain ⟨hk1, hE, hk2, hAg, hI1⟩ := S.2.2.2.2.2.2.2.2.2.2.2.2.2.2.2.2.1 n σ B τ  hI
        obtain ⟨hA1, hA2, hst⟩ := ag_close (o := o) hAg
        rw [← hst] at hI1
        refine la_16 hlt C0 hi (by omega) (by omega) (by omega) hl hP hD hS hk1 hE hk2 hA1 hA2 (fun H locs ls hl hP hD hS => ?_)
        refine lv_goto (tgt := 1287) hx hb d_La_law_1135 (by decide) ?_
        exact back _ _ _ _ _ _ _ _ _ hI1 (by omega) (by omega) hl hP hD hS
      by_cases hc17 : op = 17
      · refine lv_tableIn (tgt := 1138) hx hb d_La_law_40 (by rw [hc17]; decide) (by rw [hc17]; decide) (by rw [hc17]; rfl) (by decide) ?_
        obtain ⟨hk1, hk2, hA1, hI1⟩ := S.2.2.2.2.2.2.2.2.2.2.2.2.2.2.2.2.2.1 n σ B τ (xs (i + 1)) (xs (i + 2)) hI
        refine la_17 hlt C0 hi (by omega) (by omega) (by omega) hl hP hD hS hk1 hk2 hA1 (fun H locs ls hl hP hD hS => ?_)
        skip
        exact back _ _ _ _ _ _ _ _ _ hI1 (by omega) (by omega) hl hP hD hS
      by_cases hc18 : op = 18
      · refine lv_tableIn (tgt := 1175) hx hb d_La_law_40 (by rw [hc18]; decide) (by rw [hc18]; decide) (by rw [hc18]; rfl) (by decide) ?_
        obtain ⟨hk1, hk2, hA1, hI1⟩ := S.2.2.2.2.2.2.2.2.2.2.2.2.2.2.2.2.2.2.1 n σ B τ (xs (i + 1)) hI
        refine la_18 hlt C0 hi (by omega) (by omega) (by omega) hl hP hD hS hk1 hk2 hA1 (fun H locs ls hl hP hD hS => ?_)
        skip
        exact back _ _ _ _ _ _ _ _ _ hI1 (by omega) (by omega) hl hP hD hS
      by_cases hc19 : op = 19
      · refine lv_tableIn (tgt := 1200) hx hb d_La_law_40 (by rw [hc19]; decide) (by rw [hc19]; decide) (by rw [hc19]; rfl) (by decide) ?_
        obtain ⟨hk1, hk2, hA1, hI1⟩ := S.2.2.2.2.2.2.2.2.2.2.2.2.2.2.2.2.2.2.2.1 n σ B τ  hI
        refine la_19 hlt C0 hi (by omega) (by omega) (by omega) hl hP hD hS hk1 hk2 hA1 (fun H locs ls hl hP hD hS => ?_)
        skip
        exact back _ _ _ _ _ _ _ _ _ hI1 (by omega) (by omega) hl hP hD hS
      by_cases hc20 : op = 20
      · refine lv_tableIn (tgt := 1213) hx hb d_La_law_40 (by rw [hc20]; decide) (by rw [hc20]; decide) (by rw [hc20]; rfl) (by decide) ?_
        obtain ⟨hk1, hk2, hA1, hI1⟩ := S.2.2.2.2.2.2.2.2.2.2.2.2.2.2.2.2.2.2.2.2.1 n σ B τ (xs (i + 1)) (xs (i + 2)) hI
        refine la_20 hlt C0 hi (by omega) (by omega) (by omega) hl hP hD hS hk1 hk2 hA1 (fun H locs ls hl hP hD hS => ?_)
        skip
        exact back _ _ _ _ _ _ _ _ _ hI1 (by omega) (by omega) hl hP hD hS
      by_cases hc21 : op = 21
      · refine lv_tableIn (tgt := 1250) hx hb d_La_law_40 (by rw [hc21]; decide) (by rw [hc21]; decide) (by rw [hc21]; rfl) (by decide) ?_
        obtain ⟨hk1, hk2, hA1, hI1⟩ := S.2.2.2.2.2.2.2.2.2.2.2.2.2.2.2.2.2.2.2.2.2 n σ B τ (xs (i + 1)) (xs (i + 2)) hI
        refine la_21 hlt C0 hi (by omega) (by omega) (by omega) hl hP hD hS hk1 hk2 hA1 (fun H locs ls hl hP hD hS => ?_)
        skip
        exact back _ _ _ _ _ _ _ _ _ hI1 (by omega) (by omega) hl hP hD hS
      refine lv_tableOut (tgt := 1287) hx hb d_La_law_40 (by have := lv_neT hc0 (by decide : (0 : Int32).toInt = 0); have := lv_neT hc1 (by decide : (1 : Int32).toInt = 1); have := lv_neT hc2 (by decide : (2 : Int32).toInt = 2); have := lv_neT hc3 (by decide : (3 : Int32).toInt = 3); have := lv_neT hc4 (by decide : (4 : Int32).toInt = 4); have := lv_neT hc5 (by decide : (5 : Int32).toInt = 5); have := lv_neT hc6 (by decide : (6 : Int32).toInt = 6); have := lv_neT hc7 (by decide : (7 : Int32).toInt = 7); have := lv_neT hc8 (by decide : (8 : Int32).toInt = 8); have := lv_neT hc9 (by decide : (9 : Int32).toInt = 9); have := lv_neT hc10 (by decide : (10 : Int32).toInt = 10); have := lv_neT hc11 (by decide : (11 : Int32).toInt = 11); have := lv_neT hc12 (by decide : (12 : Int32).toInt = 12); have := lv_neT hc13 (by decide : (13 : Int32).toInt = 13); have := lv_neT hc14 (by decide : (14 : Int32).toInt = 14); have := lv_neT hc15 (by decide : (15 : Int32).toInt = 15); have := lv_neT hc16 (by decide : (16 : Int32).toInt = 16); have := lv_neT hc17 (by decide : (17 : Int32).toInt = 17); have := lv_neT hc18 (by decide : (18 : Int32).toInt = 18); have := lv_neT hc19 (by decide : (19 : Int32).toInt = 19); have := lv_neT hc20 (by decide : (20 : Int32).toInt = 20); have := lv_neT hc21 (by decide : (21 : Int32).toInt = 21); omega) (by decide) ?_
      exact back σ B τ o H locs ls cells slots (S.1 n σ B τ hI) (by omega) (by omega) hl hP hD hS
