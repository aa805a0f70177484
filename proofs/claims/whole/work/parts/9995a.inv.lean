-- the invariant of the law's loop, with the balance in it
def z0I : Itm := (fun _ => 0, s0 0)
def IBr (nn : Nat) (B : BS) (τ : St) : Prop := BI (Sp τ) B.1 (z0I :: z0I :: z0I :: B.2.2.2) ∧ (∀ j, dom B.1 j = true → j < nn) ∧ B.2.1.1 99 0 = nI 101 ∧ B.2.2.1.1 99 0 = nI 101
def IB (_ : Nat) (σ : St) (B : BS) (τ : St) : Prop := ∃ nn q c k f, IV nn q c k f σ τ ∧ IBr nn B τ
section INV
variable {nn q c k f : Nat} {σ τ : St} {B : BS}
theorem Sp_cong {τ' : St} (h : IV nn q c k f σ τ) (hr : rwM nn τ τ') {t : Nat} {s : St} (ht : t < nn) (hS : Sp τ t s) : Sp τ' t s := by
  obtain ⟨cap, m, h1, h2⟩ := hS
  exact ⟨cap, m, h1, h2.cg (fun x _ => (ev_cong h.1 (fun t ht => (h.2.1.2.2 t ht).2) h.2.2.2.1.1 hr x t ht).symm)⟩
theorem IBr.cong {τ' : St} {nn' : Nat} (h : IV nn q c k f σ τ) (hb : IBr nn B τ) (hle : nn ≤ nn') (hr : rwM nn τ τ') : IBr nn' B τ' := by
  obtain ⟨b1, b2, b3⟩ := hb
  refine ⟨fun t a e => ?_, fun j hj => by have := b2 j hj; omega, b3⟩
  obtain ⟨i, x, i1, i2, i3, i4⟩ := b1 t a e
  exact ⟨i, x, i1, i2, i3, Sp_cong h hr (b2 t (by show (B.1 t).isSome = true; rw [e]; rfl)) i4⟩
theorem IB.res {m : Nat} {z : XR} {w : Int32 × St} {cd : Nat → Int32} {al : Nat → Prop} (h : IV nn q c k f σ τ) (hb : IBr nn B τ) (R : RES nn τ z w cd al) : IB m z.2 B w.2 := by
  obtain ⟨-, -, ⟨n', q', c', k', f', hle, h'⟩, hr⟩ := R
  exact ⟨n', q', c', k', f', h', hb.cong h hle hr⟩
theorem IB.same {m : Nat} {σ' τ' : St} (h : IV nn q c k f σ τ) (hb : IBr nn B τ) (h' : IV nn q c k f σ' τ') (hr : rwM nn τ τ') : IB m σ' B τ' := ⟨nn, q, c, k, f, h', hb.cong h (Nat.le_refl nn) hr⟩
theorem IV00 (h : IV nn q c k f σ τ) : IV nn q c k f σ (sF τ 0 0 0) := h
theorem rw00 : rwM nn τ (sF τ 0 0 0) := fun c0 q1 q2 j _ => by
  show pu τ.1 0 _ c0 j = _
  rw [pu_at, if_neg (by omega)]
theorem IB.read {m : Nat} {τ' : St} (h : IV nn q c k f σ τ) (hb : IBr nn B τ) (e : τ' = sF τ 0 0 0) : IB m σ B τ' := by
  rw [e]; exact IB.same h hb (IV00 h) rw00
end INV
theorem S_ok : S_all IB := by
  refine ⟨fun n σ B τ hI => hI, fun n σ B τ hI => ?_, fun n σ B τ a b d hI => ?_, fun n σ B τ a b hI => ?_, fun n σ B τ a hI => ?_, fun n σ B τ hI => ?_, fun n σ B τ a hI => ?_, fun n σ B τ a b d hI => ?_, fun n σ B τ a b hI => ?_, fun n σ B τ a b hI => ?_, fun n σ B τ a hI => ?_, fun n σ B τ a b hI => ?_, fun n σ B τ a hI => ?_, fun n σ B τ a b hI => ?_, fun n σ B τ a b hI => ?_, fun n σ B τ hI => ?_, fun n σ B τ hI => ?_, fun n σ B τ a b hI => ?_, fun n σ B τ a hI => ?_, fun n σ B τ hI => ?_, fun n σ B τ a b hI => ?_, fun n σ B τ a b hI => ?_⟩
  · obtain ⟨nn, q, c, k, f, h, hb⟩ := hI
    obtain ⟨k1, k2, e, h', hr⟩ := op_sort h
    exact ⟨k1, k2, e, IB.same h hb h' hr⟩
  · obtain ⟨nn, q, c, k, f, h, hb⟩ := hI
    obtain ⟨k1, k2, e, h', hr⟩ := op_symbol a b d h
    exact ⟨k1, k2, e, IB.same h hb h' hr⟩
  · obtain ⟨nn, q, c, k, f, h, hb⟩ := hI
    obtain ⟨k1, k2, e, h', hr⟩ := op_variable a b h
    exact ⟨k1, k2, e, IB.same h hb h' hr⟩
  · obtain ⟨nn, q, c, k, f, h, hb⟩ := hI
    obtain ⟨k1, k2, e, h', hr⟩ := op_draft a h
    exact ⟨k1, k2, e, IB.same h hb h' hr⟩
  · obtain ⟨nn, q, c, k, f, h, hb⟩ := hI
    obtain ⟨k1, k2, R⟩ := op_term h
    exact ⟨k1, R.2.1, k2, R.1, IB.res h hb R⟩
  · obtain ⟨nn, q, c, k, f, h, hb⟩ := hI
    obtain ⟨k1, k2, R⟩ := op_assume a h
    exact ⟨k1, R.2.1, k2, R.1, IB.res h hb R⟩
  · obtain ⟨nn, q, c, k, f, h, hb⟩ := hI
    obtain ⟨k1, k2, R⟩ := op_cut a b d h
    exact ⟨k1, R.2.1, k2, R.1, IB.res h hb R⟩
  · obtain ⟨nn, q, c, k, f, h, hb⟩ := hI
    obtain ⟨k1, k2, R⟩ := op_widen a b h
    exact ⟨k1, R.2.1, k2, R.1, IB.res h hb R⟩
  · obtain ⟨nn, q, c, k, f, h, hb⟩ := hI
    obtain ⟨k1, k2, R⟩ := op_meaning a b h
    exact ⟨k1, R.2.1, k2, R.1, IB.res h hb R⟩
  · obtain ⟨nn, q, c, k, f, h, hb⟩ := hI
    obtain ⟨k1, k2, R⟩ := op_same a h
    exact ⟨k1, R.2.1, k2, R.1, IB.res h hb R⟩
  · obtain ⟨nn, q, c, k, f, h, hb⟩ := hI
    obtain ⟨k1, k2, R⟩ := op_chain a b h
    exact ⟨k1, R.2.1, k2, R.1, IB.res h hb R⟩
  · obtain ⟨nn, q, c, k, f, h, hb⟩ := hI
    obtain ⟨k1, k2, R⟩ := op_turn a h
    exact ⟨k1, R.2.1, k2, R.1, IB.res h hb R⟩
  · obtain ⟨nn, q, c, k, f, h, hb⟩ := hI
    obtain ⟨k1, k2, R⟩ := op_replace a b h
    exact ⟨k1, R.2.1, k2, R.1, IB.res h hb R⟩
  · obtain ⟨nn, q, c, k, f, h, hb⟩ := hI
    obtain ⟨k1, k2, R⟩ := op_instance a b h
    exact ⟨k1, R.2.1, k2, R.1, IB.res h hb R⟩
  · obtain ⟨nn, q, c, k, f, h, hb⟩ := hI
    obtain ⟨k1, k2, R⟩ := op_open h
    exact ⟨k1, R.2.1, k2, R.1, IB.res h hb R⟩
  · obtain ⟨nn, q, c, k, f, h, hb⟩ := hI
    obtain ⟨k1, k2, R⟩ := op_close h
    exact ⟨k1, R.2.1, k2, R.1, IB.res h hb R⟩
  · obtain ⟨nn, q, c, k, f, h, hb⟩ := hI
    obtain ⟨k1, k2, e, e2⟩ := op_clause a b h
    exact ⟨k1, k2, e, IB.read h hb e2⟩
  · obtain ⟨nn, q, c, k, f, h, hb⟩ := hI
    obtain ⟨k1, k2, e, e2⟩ := op_scope a h
    exact ⟨k1, k2, e, IB.read h hb e2⟩
  · obtain ⟨nn, q, c, k, f, h, hb⟩ := hI
    obtain ⟨k1, k2, e, e2⟩ := op_empty h
    exact ⟨k1, k2, e, IB.read h hb e2⟩
  · obtain ⟨nn, q, c, k, f, h, hb⟩ := hI
    obtain ⟨k1, k2, e, e2⟩ := op_look a b h
    exact ⟨k1, k2, e, IB.read h hb e2⟩
  · obtain ⟨nn, q, c, k, f, h, hb⟩ := hI
    obtain ⟨k1, k2, e, h', hr⟩ := op_text a b h
    exact ⟨k1, k2, e, IB.same h hb h' (fun c0 q1 q2 j _ => by rw [hr c0 q1 q2])⟩
