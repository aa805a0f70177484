-- worlds up to their order; sums in any number
theorem zp_P {D : va_G} {cl : List vw_C} {ws ws' : va_W} {H : Heap} (h : va_P D cl ws H) (p : List.Perm ws ws') : va_P D cl ws' H := fun k q hk => by
  obtain ⟨i, hi⟩ := List.mem_iff_getElem?.mp (p.mem_iff.mpr (List.mem_of_getElem? hk))
  exact h i q hi
theorem zp_nd {ws : va_W} : (∀ (i j : Nat) (p q : Nat × va_E), ws[i]? = some p → ws[j]? = some q → p.1 = q.1 → i = j) ↔ (ws.map Prod.fst).Nodup := by
  unfold List.Nodup
  rw [List.pairwise_iff_getElem]
  constructor
  · intro h i j hi hj hij e
    rw [List.length_map] at hi hj
    rw [List.getElem_map, List.getElem_map] at e
    have := h i j ws[i] ws[j] (List.getElem?_eq_getElem hi) (List.getElem?_eq_getElem hj) e
    omega
  · intro h i j p q hp hq e
    obtain ⟨hi, rfl⟩ := List.getElem?_eq_some_iff.mp hp
    obtain ⟨hj, rfl⟩ := List.getElem?_eq_some_iff.mp hq
    have hi' : i < (ws.map Prod.fst).length := by rw [List.length_map]; exact hi
    have hj' : j < (ws.map Prod.fst).length := by rw [List.length_map]; exact hj
    rcases Nat.lt_trichotomy i j with w | w | w
    · exact absurd (by rw [List.getElem_map, List.getElem_map]; exact e) (h i j hi' hj' w)
    · exact w
    · exact absurd (by rw [List.getElem_map, List.getElem_map]; exact e.symm) (h j i hj' hi' w)
theorem zp_D {A : Nat → Prop} {ws ws' : va_W} (h : va_D A ws) (p : List.Perm ws ws') : va_D A ws' :=
  ⟨zp_nd.mpr ((p.map Prod.fst).nodup (zp_nd.mp h.1)), fun k q hk => by
    obtain ⟨i, hi⟩ := List.mem_iff_getElem?.mp (p.mem_iff.mpr (List.mem_of_getElem? hk))
    exact h.2 i q hi⟩
theorem zp_A {ws ws' : va_W} {sz q : Nat} (p : List.Perm ws ws') (h : va_A ws sz q) : va_A ws' sz q := by
  rcases h with ⟨k, e, h⟩ | h
  · obtain ⟨i, hi⟩ := List.mem_iff_getElem?.mp (p.mem_iff.mp (List.mem_of_getElem? h))
    exact Or.inl ⟨i, e, hi⟩
  · exact Or.inr h
/-- a sum: its addresses, its state -/
abbrev Itm : Type := (Nat → Nat) × St
def SW (ty : Nat → ClassId) (px : va_W) : List Itm → va_W
  | [] => px
  | x :: L => Ws ty x.1 x.2 (SW ty px L)
theorem SW_perm {ty : Nat → ClassId} {px : va_W} {L L' : List Itm} (p : List.Perm L L') : List.Perm (SW ty px L) (SW ty px L') := by
  induction p with
  | nil => exact List.Perm.refl _
  | cons x _ ih => exact ((((ih.cons _).cons _).cons _).cons _)
  | swap x y l => exact List.perm_append_comm_assoc (Ws ty y.1 y.2 []) (Ws ty x.1 x.2 []) (SW ty px l)
  | trans _ _ h1 h2 => exact h1.trans h2
theorem zp_set {L : List Itm} {i : Nat} {x : Itm} (h : L[i]? = some x) : L.set i x = L := by
  obtain ⟨hi, rfl⟩ := List.getElem?_eq_some_iff.mp h
  exact List.set_getElem_self hi
theorem zp_on : ∀ {L : List Itm} {i : Nat} {x : Itm}, L[i]? = some x → ∃ R, ∀ y, List.Perm (L.set i y) (y :: R) := by
  intro L
  induction L with
  | nil => intro i x h; cases h
  | cons a L ih =>
    intro i x h
    cases i with
    | zero => exact ⟨L, fun y => List.Perm.refl _⟩
    | succ i =>
      obtain ⟨R, hR⟩ := ih (i := i) (x := x) h
      exact ⟨a :: R, fun y => ((hR y).cons a).trans (List.Perm.swap y a R)⟩
theorem zp_tw : ∀ {L : List Itm} {i j : Nat} {x y : Itm}, L[i]? = some x → L[j]? = some y → ¬ i = j → ∃ R, ∀ z, List.Perm (L.set i z) (z :: y :: R) := by
  intro L
  induction L with
  | nil => intro i j x y h; cases h
  | cons a L ih =>
    intro i j x y hi hj hne
    cases i with
    | zero =>
      cases j with
      | zero => exact absurd rfl hne
      | succ j =>
        have hj : L[j]? = some y := hj
        obtain ⟨R, hR⟩ := zp_on hj
        have h1 := hR y
        rw [zp_set hj] at h1
        exact ⟨R, fun z => h1.cons z⟩
    | succ i =>
      have hi : L[i]? = some x := hi
      cases j with
      | zero =>
        have hj : some a = some y := hj
        cases hj
        obtain ⟨R, hR⟩ := zp_on hi
        exact ⟨R, fun z => ((hR z).cons a).trans (List.Perm.swap z a R)⟩
      | succ j =>
        obtain ⟨R, hR⟩ := ih hi (show L[j]? = some y from hj) (fun z => hne (by rw [z]))
        exact ⟨a :: R, fun z => ((hR z).cons a).trans ((List.Perm.swap z a (y :: R)).trans ((List.Perm.swap y a R).cons z))⟩
/-- the class's world with the balance's table A and its sums L -/
abbrev WB (ty : Nat → ClassId) (h : Nat → Nat) (σ : St) (cA : ClassId) (A : Nat → Option Nat) (px : va_W) (L : List Itm) : va_W := Wc ty h σ ((h 40, .inl (cA, (100, .inr (.inr (.inr (.inr A)))))) :: SW ty px L)
section WBS
variable {ty : Nat → ClassId} {h : Nat → Nat} {σ : St} {cA : ClassId} {A : Nat → Option Nat} {px : va_W} {L R : List Itm} {z y : Itm}
theorem WB_on (p : List.Perm L (z :: R)) : List.Perm (WB ty h σ cA A px L) (Ws ty z.1 z.2 (WB ty h σ cA A px R)) :=
  ((SW_perm (ty := ty) (px := px) p).append_left (WB ty h σ cA A [] [])).trans (List.perm_append_comm_assoc (WB ty h σ cA A [] []) (Ws ty z.1 z.2 []) (SW ty px R))
theorem WB_tw (p : List.Perm L (z :: y :: R)) : List.Perm (WB ty h σ cA A px L) (Ws ty z.1 z.2 (Ws ty y.1 y.2 (WB ty h σ cA A px R))) :=
  (WB_on p).trans ((((((WB_on (List.Perm.refl (y :: R)))).cons _).cons _).cons _).cons _)
theorem WB_in (p : List.Perm L (z :: R)) : List.Perm (WB ty h σ cA A px L) (Wc ty h σ (Ws ty z.1 z.2 ((h 40, .inl (cA, (100, .inr (.inr (.inr (.inr A)))))) :: SW ty px R))) :=
  (WB_on p).trans ((List.perm_append_comm_assoc (Ws ty z.1 z.2 []) (Wc ty h σ []) ((h 40, .inl (cA, (100, .inr (.inr (.inr (.inr A)))))) :: SW ty px R)))
theorem Wc_Ws {g : Nat → Nat} {ω : St} : List.Perm (Wc ty h σ (Ws ty g ω px)) (Ws ty g ω (Wc ty h σ px)) :=
  List.perm_append_comm_assoc (Wc ty h σ []) (Ws ty g ω []) px
end WBS
/-- a new sum that can hold n entries -/
def s0 (n : Nat) : St := (fun k _ => if k = 99 then nI n else 0, fun _ _ => 0)
abbrev ad4 (q : Nat) (u : Nat → Nat) : Nat → Nat := fun k => ([q, u 0, u 1, u 2] : List Nat).getD k 0
theorem at_new (ty : Nat → ClassId) (q n : Nat) (u : Nat → Nat) (hn : n ≤ 101) (ws : va_W) : at_Su_init ty q n u ++ ws = Ws ty (ad4 q u) (s0 n) ws := by
  have e : ((s0 n).1 99 0).toNatClampNeg = n := nI_clamp (by omega)
  show _ = (q, _) :: (u 0, .inl (ty 0, ((s0 n).1 99 0).toNatClampNeg, _)) :: (u 1, .inl (ty 1, ((s0 n).1 99 0).toNatClampNeg, _)) :: (u 2, .inl (ty 1, ((s0 n).1 99 0).toNatClampNeg, _)) :: ws
  rw [e]; rfl
