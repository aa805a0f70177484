set_option maxHeartbeats 4000000 in
set_option maxRecDepth 100000 in
theorem la_0 {p : Program} {l : Launch} {e : Env} {s : State} {m : MethodId} {args : Array Value} {below : List Frame} {meth : Method} {c : Code} {H : Heap} {locs : List Loc} {cells slots : Nat} {Q : State → Prop} {b L i ho : Nat} {xs : Nat → Int32} {D : va_G} {ty sa h g : Nat → Nat} {px : va_W} {σ τ : St} {o : Nat → Int64} {ls : Array Slot} (hlt : l.stackTraces = false) (C : lwC p s m args c b L xs D ty sa) (hi : i + 7 ≤ L) (hL : L < 2 ^ 31) (hcl0 : cells + 0 ≤ room_1.cells) (hsl0 : slots + 0 ≤ room_1.slots) (hl : lv_has ls 7 [(0, .ref b), (1, .ref (h 0)), (2, .ref (g 0)), (3, .ref ho), (4, .int (nI i))]) (hP : va_P D classes (Wc ty h σ ((ho, .inl (ty 1, 1, .inr (.inl o))) :: (px ++ Wm ty g (τ) []))) H) (hD : va_D (lA s) (Wc ty h σ ((ho, .inl (ty 1, 1, .inr (.inl o))) :: (px ++ Wm ty g (τ) [])))) (hS : va_S (lA s) s.heap H locs) (hk1 : k_CL_sort σ) (hk2 : k_Mo_sort τ) (hA1 : (f_CL_sort σ).1 = (f_Mo_sort (τ)).1)
    (K : ∀ (H : Heap) (locs : List Loc) (ls : Array Slot), lv_has ls 7 [(0, .ref b), (1, .ref (h 0)), (2, .ref (g 0)), (3, .ref ho), (4, .int (nI i))] → va_P D classes (Wc ty h ((f_CL_sort σ).2) ((ho, .inl (ty 1, 1, .inr (.inl o))) :: (px ++ Wm ty g ((f_Mo_sort (τ)).2) []))) H → va_D (lA s) (Wc ty h ((f_CL_sort σ).2) ((ho, .inl (ty 1, 1, .inr (.inl o))) :: (px ++ Wm ty g ((f_Mo_sort (τ)).2) []))) → va_S (lA s) s.heap H locs → W p l e room_1 s m args below meth c H locs cells slots Q (F0 m 1287 ls [])) : W p l e room_1 s m args below meth c H locs cells slots Q (F0 m 144 ls []) := by
  obtain ⟨hx, hb, hml, hown, hg, hXs, hbl, hK, hN, hNC, hXK, hM⟩ := C
  refine lv_aload_n hx hb d_La_law_144 rfl (lv_at hl 1 rfl) ?_
  refine va_calli (va_runV (As := []) (rest := []) ⟨hx, hb, hml, hown, hg⟩ (c_CL_sort l D ty h ((ho, .inl (ty 1, 1, .inr (.inl o))) :: (px ++ Wm ty g (τ) [])) sa σ H.size hk1) ⟨callB_of 0 hg (gw_C m_321) rfl rfl rfl (hg _ m_1) (hg _ m_318) hd_CL_sort ⟨Nat.le_of_ble_eq_true rfl, Nat.le_of_ble_eq_true rfl⟩, hg _ m_319, hg _ m_320⟩ (zz_preVW hM hS (lA_in s) hN hK hP hD 0 rfl rfl) rfl rfl hl.1 rfl (lv_room (Nat.le_of_ble_eq_true rfl)) d_La_law_145 ⟨hcl0, hsl0⟩) hS (fun q _ h9 => zz_free hD hS (lA_in s) q h9) (zz_free hD hS (lA_in s)) (fun r145 u145 t H locs ht hvm hp hP1 hz9 hk9 hS => ?_)
  rw [ht] at hP1
  obtain ⟨rfl, rfl⟩ : r145 = (f_CL_sort σ).1 ∧ u145 = (f_CL_sort σ).2 := by rw [← hp]; exact ⟨rfl, rfl⟩
  clear hp
  have hP : va_P D classes (Wc ty h ((f_CL_sort σ).2) ((ho, .inl (ty 1, 1, .inr (.inl o))) :: (px ++ Wm ty g (τ) []))) H := hP1
  have hD : va_D (lA s) (Wc ty h ((f_CL_sort σ).2) ((ho, .inl (ty 1, 1, .inr (.inl o))) :: (px ++ Wm ty g (τ) []))) := zz_D hD rfl
  refine lv_aload_n hx hb d_La_law_148 rfl (lv_at hl 2 rfl) ?_
  have hP : va_P D classes (Wm ty g (τ) (Wc ty h ((f_CL_sort σ).2) ((ho, .inl (ty 1, 1, .inr (.inl o))) :: px))) H := rotP (a := Wc ty h ((f_CL_sort σ).2) ((ho, .inl (ty 1, 1, .inr (.inl o))) :: px)) (b := Wm ty g (τ) []) hP
  have hD : va_D (lA s) (Wm ty g (τ) (Wc ty h ((f_CL_sort σ).2) ((ho, .inl (ty 1, 1, .inr (.inl o))) :: px))) := rotD (a := Wc ty h ((f_CL_sort σ).2) ((ho, .inl (ty 1, 1, .inr (.inl o))) :: px)) (b := Wm ty g (τ) []) hD
  refine va_calli (va_runV (As := []) (rest := [.int (f_CL_sort σ).1]) ⟨hx, hb, hml, hown, hg⟩ (c_Mo_sort l D ty g (Wc ty h ((f_CL_sort σ).2) ((ho, .inl (ty 1, 1, .inr (.inl o))) :: px)) sa (τ) H.size hk2) ⟨callB_of 0 hg (gw_C m_1420) rfl rfl rfl (hg _ m_13) (hg _ m_1417) hd_Mo_sort ⟨Nat.le_of_ble_eq_true rfl, Nat.le_of_ble_eq_true rfl⟩, hg _ m_1418, hg _ m_1419⟩ (zz_preVW hM hS (lA_in s) hN hK hP hD 0 rfl rfl) rfl rfl hl.1 rfl (lv_room (Nat.le_of_ble_eq_true rfl)) d_La_law_149 ⟨hcl0, hsl0⟩) hS (fun q _ h9 => zz_free hD hS (lA_in s) q h9) (zz_free hD hS (lA_in s)) (fun r149 u149 t H locs ht hvm hp hP1 hz9 hk9 hS => ?_)
  rw [ht] at hP1
  obtain ⟨rfl, rfl⟩ : r149 = (f_Mo_sort (τ)).1 ∧ u149 = (f_Mo_sort (τ)).2 := by rw [← hp]; exact ⟨rfl, rfl⟩
  clear hp
  have hP : va_P D classes (Wm ty g ((f_Mo_sort (τ)).2) (Wc ty h ((f_CL_sort σ).2) ((ho, .inl (ty 1, 1, .inr (.inl o))) :: px))) H := hP1
  have hD : va_D (lA s) (Wm ty g ((f_Mo_sort (τ)).2) (Wc ty h ((f_CL_sort σ).2) ((ho, .inl (ty 1, 1, .inr (.inl o))) :: px))) := zz_D hD rfl
  have hP : va_P D classes (Wc ty h ((f_CL_sort σ).2) ((ho, .inl (ty 1, 1, .inr (.inl o))) :: (px ++ Wm ty g ((f_Mo_sort (τ)).2) []))) H := rotP (a := Wm ty g ((f_Mo_sort (τ)).2) []) (b := Wc ty h ((f_CL_sort σ).2) ((ho, .inl (ty 1, 1, .inr (.inl o))) :: px)) hP
  have hD : va_D (lA s) (Wc ty h ((f_CL_sort σ).2) ((ho, .inl (ty 1, 1, .inr (.inl o))) :: (px ++ Wm ty g ((f_Mo_sort (τ)).2) []))) := rotD (a := Wm ty g ((f_Mo_sort (τ)).2) []) (b := Wc ty h ((f_CL_sort σ).2) ((ho, .inl (ty 1, 1, .inr (.inl o))) :: px)) hD
  refine lv_icmp_eq (tgt := 1287) hx hb d_La_law_152 (by decide) (fun _ => ?_) (fun hc => absurd hA1 hc)
  exact K _ _ _ (lv_sub hl [0, 1, 2, 3, 4] rfl) hP hD hS

set_option maxHeartbeats 4000000 in
set_option maxRecDepth 100000 in
theorem la_1 {p : Program} {l : Launch} {e : Env} {s : State} {m : MethodId} {args : Array Value} {below : List Frame} {meth : Method} {c : Code} {H : Heap} {locs : List Loc} {cells slots : Nat} {Q : State → Prop} {b L i ho : Nat} {xs : Nat → Int32} {D : va_G} {ty sa h g : Nat → Nat} {px : va_W} {σ τ : St} {o : Nat → Int64} {ls : Array Slot} (hlt : l.stackTraces = false) (C : lwC p s m args c b L xs D ty sa) (hi : i + 7 ≤ L) (hL : L < 2 ^ 31) (hcl0 : cells + 0 ≤ room_1.cells) (hsl0 : slots + 0 ≤ room_1.slots) (hl : lv_has ls 7 [(0, .ref b), (1, .ref (h 0)), (2, .ref (g 0)), (3, .ref ho), (4, .int (nI i))]) (hP : va_P D classes (Wc ty h σ ((ho, .inl (ty 1, 1, .inr (.inl o))) :: (px ++ Wm ty g (τ) []))) H) (hD : va_D (lA s) (Wc ty h σ ((ho, .inl (ty 1, 1, .inr (.inl o))) :: (px ++ Wm ty g (τ) [])))) (hS : va_S (lA s) s.heap H locs) (hk1 : k_CL_symbol (xs (i + 1)) (xs (i + 2)) (xs (i + 3)) σ) (hk2 : k_Mo_symbol (xs (i + 1)) (xs (i + 2)) (xs (i + 3)) τ) (hA1 : (f_CL_symbol (xs (i + 1)) (xs (i + 2)) (xs (i + 3)) σ).1 = (f_Mo_symbol (xs (i + 1)) (xs (i + 2)) (xs (i + 3)) (τ)).1)
    (K : ∀ (H : Heap) (locs : List Loc) (ls : Array Slot), lv_has ls 7 [(0, .ref b), (1, .ref (h 0)), (2, .ref (g 0)), (3, .ref ho), (4, .int (nI i))] → va_P D classes (Wc ty h ((f_CL_symbol (xs (i + 1)) (xs (i + 2)) (xs (i + 3)) σ).2) ((ho, .inl (ty 1, 1, .inr (.inl o))) :: (px ++ Wm ty g ((f_Mo_symbol (xs (i + 1)) (xs (i + 2)) (xs (i + 3)) (τ)).2) []))) H → va_D (lA s) (Wc ty h ((f_CL_symbol (xs (i + 1)) (xs (i + 2)) (xs (i + 3)) σ).2) ((ho, .inl (ty 1, 1, .inr (.inl o))) :: (px ++ Wm ty g ((f_Mo_symbol (xs (i + 1)) (xs (i + 2)) (xs (i + 3)) (τ)).2) []))) → va_S (lA s) s.heap H locs → W p l e room_1 s m args below meth c H locs cells slots Q (F0 m 1287 ls [])) : W p l e room_1 s m args below meth c H locs cells slots Q (F0 m 157 ls []) := by
  obtain ⟨hx, hb, hml, hown, hg, hXs, hbl, hK, hN, hNC, hXK, hM⟩ := C
  refine lv_aload_n hx hb d_La_law_157 rfl (lv_at hl 1 rfl) ?_
  refine lv_aload_n hx hb d_La_law_158 rfl (lv_at hl 0 rfl) ?_
  refine lv_iload hx hb d_La_law_159 (lv_at hl 4 rfl) ?_
  refine lv_iconst (v := nI 1) hx hb d_La_law_161 (by decide) ?_
  refine lv_iadd hx hb d_La_law_162 ?_
  refine la_ld (k := 1) hx hb hXs hbl hS (by omega) (by omega) d_La_law_163 ?_
  refine lv_aload_n hx hb d_La_law_164 rfl (lv_at hl 0 rfl) ?_
  refine lv_iload hx hb d_La_law_165 (lv_at hl 4 rfl) ?_
  refine lv_iconst (v := nI 2) hx hb d_La_law_167 (by decide) ?_
  refine lv_iadd hx hb d_La_law_168 ?_
  refine la_ld (k := 2) hx hb hXs hbl hS (by omega) (by omega) d_La_law_169 ?_
  refine lv_aload_n hx hb d_La_law_170 rfl (lv_at hl 0 rfl) ?_
  refine lv_iload hx hb d_La_law_171 (lv_at hl 4 rfl) ?_
  refine lv_iconst (v := nI 3) hx hb d_La_law_173 (by decide) ?_
  refine lv_iadd hx hb d_La_law_174 ?_
  refine la_ld (k := 3) hx hb hXs hbl hS (by omega) (by omega) d_La_law_175 ?_
  refine va_calli (va_runV (As := [.int (xs (i + 1)), .int (xs (i + 2)), .int (xs (i + 3))]) (rest := []) ⟨hx, hb, hml, hown, hg⟩ (c_CL_symbol l D ty h ((ho, .inl (ty 1, 1, .inr (.inl o))) :: (px ++ Wm ty g (τ) [])) sa σ H.size (xs (i + 1)) (xs (i + 2)) (xs (i + 3)) hk1) ⟨callB_of 3 hg (gw_C m_329) rfl rfl rfl (hg _ m_1) (hg _ m_326) hd_CL_symbol ⟨Nat.le_of_ble_eq_true rfl, Nat.le_of_ble_eq_true rfl⟩, hg _ m_327, hg _ m_328⟩ (zz_preVW hM hS (lA_in s) hN hK hP hD 0 rfl rfl) rfl rfl hl.1 rfl (lv_room (Nat.le_of_ble_eq_true rfl)) d_La_law_176 ⟨hcl0, hsl0⟩) hS (fun q _ h9 => zz_free hD hS (lA_in s) q h9) (zz_free hD hS (lA_in s)) (fun r176 u176 t H locs ht hvm hp hP1 hz9 hk9 hS => ?_)
  rw [ht] at hP1
  obtain ⟨rfl, rfl⟩ : r176 = (f_CL_symbol (xs (i + 1)) (xs (i + 2)) (xs (i + 3)) σ).1 ∧ u176 = (f_CL_symbol (xs (i + 1)) (xs (i + 2)) (xs (i + 3)) σ).2 := by rw [← hp]; exact ⟨rfl, rfl⟩
  clear hp
  have hP : va_P D classes (Wc ty h ((f_CL_symbol (xs (i + 1)) (xs (i + 2)) (xs (i + 3)) σ).2) ((ho, .inl (ty 1, 1, .inr (.inl o))) :: (px ++ Wm ty g (τ) []))) H := hP1
  have hD : va_D (lA s) (Wc ty h ((f_CL_symbol (xs (i + 1)) (xs (i + 2)) (xs (i + 3)) σ).2) ((ho, .inl (ty 1, 1, .inr (.inl o))) :: (px ++ Wm ty g (τ) []))) := zz_D hD rfl
  refine lv_aload_n hx hb d_La_law_179 rfl (lv_at hl 2 rfl) ?_
  refine lv_aload_n hx hb d_La_law_180 rfl (lv_at hl 0 rfl) ?_
  refine lv_iload hx hb d_La_law_181 (lv_at hl 4 rfl) ?_
  refine lv_iconst (v := nI 1) hx hb d_La_law_183 (by decide) ?_
  refine lv_iadd hx hb d_La_law_184 ?_
  refine la_ld (k := 1) hx hb hXs hbl hS (by omega) (by omega) d_La_law_185 ?_
  refine lv_aload_n hx hb d_La_law_186 rfl (lv_at hl 0 rfl) ?_
  refine lv_iload hx hb d_La_law_187 (lv_at hl 4 rfl) ?_
  refine lv_iconst (v := nI 2) hx hb d_La_law_189 (by decide) ?_
  refine lv_iadd hx hb d_La_law_190 ?_
  refine la_ld (k := 2) hx hb hXs hbl hS (by omega) (by omega) d_La_law_191 ?_
  refine lv_aload_n hx hb d_La_law_192 rfl (lv_at hl 0 rfl) ?_
  refine lv_iload hx hb d_La_law_193 (lv_at hl 4 rfl) ?_
  refine lv_iconst (v := nI 3) hx hb d_La_law_195 (by decide) ?_
  refine lv_iadd hx hb d_La_law_196 ?_
  refine la_ld (k := 3) hx hb hXs hbl hS (by omega) (by omega) d_La_law_197 ?_
  have hP : va_P D classes (Wm ty g (τ) (Wc ty h ((f_CL_symbol (xs (i + 1)) (xs (i + 2)) (xs (i + 3)) σ).2) ((ho, .inl (ty 1, 1, .inr (.inl o))) :: px))) H := rotP (a := Wc ty h ((f_CL_symbol (xs (i + 1)) (xs (i + 2)) (xs (i + 3)) σ).2) ((ho, .inl (ty 1, 1, .inr (.inl o))) :: px)) (b := Wm ty g (τ) []) hP
  have hD : va_D (lA s) (Wm ty g (τ) (Wc ty h ((f_CL_symbol (xs (i + 1)) (xs (i + 2)) (xs (i + 3)) σ).2) ((ho, .inl (ty 1, 1, .inr (.inl o))) :: px))) := rotD (a := Wc ty h ((f_CL_symbol (xs (i + 1)) (xs (i + 2)) (xs (i + 3)) σ).2) ((ho, .inl (ty 1, 1, .inr (.inl o))) :: px)) (b := Wm ty g (τ) []) hD
  refine va_calli (va_runV (As := [.int (xs (i + 1)), .int (xs (i + 2)), .int (xs (i + 3))]) (rest := [.int (f_CL_symbol (xs (i + 1)) (xs (i + 2)) (xs (i + 3)) σ).1]) ⟨hx, hb, hml, hown, hg⟩ (c_Mo_symbol l D ty g (Wc ty h ((f_CL_symbol (xs (i + 1)) (xs (i + 2)) (xs (i + 3)) σ).2) ((ho, .inl (ty 1, 1, .inr (.inl o))) :: px)) sa (τ) H.size (xs (i + 1)) (xs (i + 2)) (xs (i + 3)) hk2) ⟨callB_of 3 hg (gw_C m_1424) rfl rfl rfl (hg _ m_13) (hg _ m_1421) hd_Mo_symbol ⟨Nat.le_of_ble_eq_true rfl, Nat.le_of_ble_eq_true rfl⟩, hg _ m_1422, hg _ m_1423⟩ (zz_preVW hM hS (lA_in s) hN hK hP hD 0 rfl rfl) rfl rfl hl.1 rfl (lv_room (Nat.le_of_ble_eq_true rfl)) d_La_law_198 ⟨hcl0, hsl0⟩) hS (fun q _ h9 => zz_free hD hS (lA_in s) q h9) (zz_free hD hS (lA_in s)) (fun r198 u198 t H locs ht hvm hp hP1 hz9 hk9 hS => ?_)
  rw [ht] at hP1
  obtain ⟨rfl, rfl⟩ : r198 = (f_Mo_symbol (xs (i + 1)) (xs (i + 2)) (xs (i + 3)) (τ)).1 ∧ u198 = (f_Mo_symbol (xs (i + 1)) (xs (i + 2)) (xs (i + 3)) (τ)).2 := by rw [← hp]; exact ⟨rfl, rfl⟩
  clear hp
  have hP : va_P D classes (Wm ty g ((f_Mo_symbol (xs (i + 1)) (xs (i + 2)) (xs (i + 3)) (τ)).2) (Wc ty h ((f_CL_symbol (xs (i + 1)) (xs (i + 2)) (xs (i + 3)) σ).2) ((ho, .inl (ty 1, 1, .inr (.inl o))) :: px))) H := hP1
  have hD : va_D (lA s) (Wm ty g ((f_Mo_symbol (xs (i + 1)) (xs (i + 2)) (xs (i + 3)) (τ)).2) (Wc ty h ((f_CL_symbol (xs (i + 1)) (xs (i + 2)) (xs (i + 3)) σ).2) ((ho, .inl (ty 1, 1, .inr (.inl o))) :: px))) := zz_D hD rfl
  have hP : va_P D classes (Wc ty h ((f_CL_symbol (xs (i + 1)) (xs (i + 2)) (xs (i + 3)) σ).2) ((ho, .inl (ty 1, 1, .inr (.inl o))) :: (px ++ Wm ty g ((f_Mo_symbol (xs (i + 1)) (xs (i + 2)) (xs (i + 3)) (τ)).2) []))) H := rotP (a := Wm ty g ((f_Mo_symbol (xs (i + 1)) (xs (i + 2)) (xs (i + 3)) (τ)).2) []) (b := Wc ty h ((f_CL_symbol (xs (i + 1)) (xs (i + 2)) (xs (i + 3)) σ).2) ((ho, .inl (ty 1, 1, .inr (.inl o))) :: px)) hP
  have hD : va_D (lA s) (Wc ty h ((f_CL_symbol (xs (i + 1)) (xs (i + 2)) (xs (i + 3)) σ).2) ((ho, .inl (ty 1, 1, .inr (.inl o))) :: (px ++ Wm ty g ((f_Mo_symbol (xs (i + 1)) (xs (i + 2)) (xs (i + 3)) (τ)).2) []))) := rotD (a := Wm ty g ((f_Mo_symbol (xs (i + 1)) (xs (i + 2)) (xs (i + 3)) (τ)).2) []) (b := Wc ty h ((f_CL_symbol (xs (i + 1)) (xs (i + 2)) (xs (i + 3)) σ).2) ((ho, .inl (ty 1, 1, .inr (.inl o))) :: px)) hD
  refine lv_icmp_eq (tgt := 1287) hx hb d_La_law_201 (by decide) (fun _ => ?_) (fun hc => absurd hA1 hc)
  exact K _ _ _ (lv_sub hl [0, 1, 2, 3, 4] rfl) hP hD hS

set_option maxHeartbeats 4000000 in
set_option maxRecDepth 100000 in
theorem la_2 {p : Program} {l : Launch} {e : Env} {s : State} {m : MethodId} {args : Array Value} {below : List Frame} {meth : Method} {c : Code} {H : Heap} {locs : List Loc} {cells slots : Nat} {Q : State → Prop} {b L i ho : Nat} {xs : Nat → Int32} {D : va_G} {ty sa h g : Nat → Nat} {px : va_W} {σ τ : St} {o : Nat → Int64} {ls : Array Slot} (hlt : l.stackTraces = false) (C : lwC p s m args c b L xs D ty sa) (hi : i + 7 ≤ L) (hL : L < 2 ^ 31) (hcl0 : cells + 0 ≤ room_1.cells) (hsl0 : slots + 0 ≤ room_1.slots) (hl : lv_has ls 7 [(0, .ref b), (1, .ref (h 0)), (2, .ref (g 0)), (3, .ref ho), (4, .int (nI i))]) (hP : va_P D classes (Wc ty h σ ((ho, .inl (ty 1, 1, .inr (.inl o))) :: (px ++ Wm ty g (τ) []))) H) (hD : va_D (lA s) (Wc ty h σ ((ho, .inl (ty 1, 1, .inr (.inl o))) :: (px ++ Wm ty g (τ) [])))) (hS : va_S (lA s) s.heap H locs) (hk1 : k_CL_variable (xs (i + 1)) (xs (i + 2)) σ) (hk2 : k_Mo_variable (xs (i + 1)) (xs (i + 2)) τ) (hA1 : (f_CL_variable (xs (i + 1)) (xs (i + 2)) σ).1 = (f_Mo_variable (xs (i + 1)) (xs (i + 2)) (τ)).1)
    (K : ∀ (H : Heap) (locs : List Loc) (ls : Array Slot), lv_has ls 7 [(0, .ref b), (1, .ref (h 0)), (2, .ref (g 0)), (3, .ref ho), (4, .int (nI i))] → va_P D classes (Wc ty h ((f_CL_variable (xs (i + 1)) (xs (i + 2)) σ).2) ((ho, .inl (ty 1, 1, .inr (.inl o))) :: (px ++ Wm ty g ((f_Mo_variable (xs (i + 1)) (xs (i + 2)) (τ)).2) []))) H → va_D (lA s) (Wc ty h ((f_CL_variable (xs (i + 1)) (xs (i + 2)) σ).2) ((ho, .inl (ty 1, 1, .inr (.inl o))) :: (px ++ Wm ty g ((f_Mo_variable (xs (i + 1)) (xs (i + 2)) (τ)).2) []))) → va_S (lA s) s.heap H locs → W p l e room_1 s m args below meth c H locs cells slots Q (F0 m 1287 ls [])) : W p l e room_1 s m args below meth c H locs cells slots Q (F0 m 206 ls []) := by
  obtain ⟨hx, hb, hml, hown, hg, hXs, hbl, hK, hN, hNC, hXK, hM⟩ := C
  refine lv_aload_n hx hb d_La_law_206 rfl (lv_at hl 1 rfl) ?_
  refine lv_aload_n hx hb d_La_law_207 rfl (lv_at hl 0 rfl) ?_
  refine lv_iload hx hb d_La_law_208 (lv_at hl 4 rfl) ?_
  refine lv_iconst (v := nI 1) hx hb d_La_law_210 (by decide) ?_
  refine lv_iadd hx hb d_La_law_211 ?_
  refine la_ld (k := 1) hx hb hXs hbl hS (by omega) (by omega) d_La_law_212 ?_
  refine lv_aload_n hx hb d_La_law_213 rfl (lv_at hl 0 rfl) ?_
  refine lv_iload hx hb d_La_law_214 (lv_at hl 4 rfl) ?_
  refine lv_iconst (v := nI 2) hx hb d_La_law_216 (by decide) ?_
  refine lv_iadd hx hb d_La_law_217 ?_
  refine la_ld (k := 2) hx hb hXs hbl hS (by omega) (by omega) d_La_law_218 ?_
  refine va_calli (va_runV (As := [.int (xs (i + 1)), .int (xs (i + 2))]) (rest := []) ⟨hx, hb, hml, hown, hg⟩ (c_CL_variable l D ty h ((ho, .inl (ty 1, 1, .inr (.inl o))) :: (px ++ Wm ty g (τ) [])) sa σ H.size (xs (i + 1)) (xs (i + 2)) hk1) ⟨callB_of 2 hg (gw_C m_345) rfl rfl rfl (hg _ m_1) (hg _ m_342) hd_CL_variable ⟨Nat.le_of_ble_eq_true rfl, Nat.le_of_ble_eq_true rfl⟩, hg _ m_343, hg _ m_344⟩ (zz_preVW hM hS (lA_in s) hN hK hP hD 0 rfl rfl) rfl rfl hl.1 rfl (lv_room (Nat.le_of_ble_eq_true rfl)) d_La_law_219 ⟨hcl0, hsl0⟩) hS (fun q _ h9 => zz_free hD hS (lA_in s) q h9) (zz_free hD hS (lA_in s)) (fun r219 u219 t H locs ht hvm hp hP1 hz9 hk9 hS => ?_)
  rw [ht] at hP1
  obtain ⟨rfl, rfl⟩ : r219 = (f_CL_variable (xs (i + 1)) (xs (i + 2)) σ).1 ∧ u219 = (f_CL_variable (xs (i + 1)) (xs (i + 2)) σ).2 := by rw [← hp]; exact ⟨rfl, rfl⟩
  clear hp
  have hP : va_P D classes (Wc ty h ((f_CL_variable (xs (i + 1)) (xs (i + 2)) σ).2) ((ho, .inl (ty 1, 1, .inr (.inl o))) :: (px ++ Wm ty g (τ) []))) H := hP1
  have hD : va_D (lA s) (Wc ty h ((f_CL_variable (xs (i + 1)) (xs (i + 2)) σ).2) ((ho, .inl (ty 1, 1, .inr (.inl o))) :: (px ++ Wm ty g (τ) []))) := zz_D hD rfl
  refine lv_aload_n hx hb d_La_law_222 rfl (lv_at hl 2 rfl) ?_
  refine lv_aload_n hx hb d_La_law_223 rfl (lv_at hl 0 rfl) ?_
  refine lv_iload hx hb d_La_law_224 (lv_at hl 4 rfl) ?_
  refine lv_iconst (v := nI 1) hx hb d_La_law_226 (by decide) ?_
  refine lv_iadd hx hb d_La_law_227 ?_
  refine la_ld (k := 1) hx hb hXs hbl hS (by omega) (by omega) d_La_law_228 ?_
  refine lv_aload_n hx hb d_La_law_229 rfl (lv_at hl 0 rfl) ?_
  refine lv_iload hx hb d_La_law_230 (lv_at hl 4 rfl) ?_
  refine lv_iconst (v := nI 2) hx hb d_La_law_232 (by decide) ?_
  refine lv_iadd hx hb d_La_law_233 ?_
  refine la_ld (k := 2) hx hb hXs hbl hS (by omega) (by omega) d_La_law_234 ?_
  have hP : va_P D classes (Wm ty g (τ) (Wc ty h ((f_CL_variable (xs (i + 1)) (xs (i + 2)) σ).2) ((ho, .inl (ty 1, 1, .inr (.inl o))) :: px))) H := rotP (a := Wc ty h ((f_CL_variable (xs (i + 1)) (xs (i + 2)) σ).2) ((ho, .inl (ty 1, 1, .inr (.inl o))) :: px)) (b := Wm ty g (τ) []) hP
  have hD : va_D (lA s) (Wm ty g (τ) (Wc ty h ((f_CL_variable (xs (i + 1)) (xs (i + 2)) σ).2) ((ho, .inl (ty 1, 1, .inr (.inl o))) :: px))) := rotD (a := Wc ty h ((f_CL_variable (xs (i + 1)) (xs (i + 2)) σ).2) ((ho, .inl (ty 1, 1, .inr (.inl o))) :: px)) (b := Wm ty g (τ) []) hD
  refine va_calli (va_runV (As := [.int (xs (i + 1)), .int (xs (i + 2))]) (rest := [.int (f_CL_variable (xs (i + 1)) (xs (i + 2)) σ).1]) ⟨hx, hb, hml, hown, hg⟩ (c_Mo_variable l D ty g (Wc ty h ((f_CL_variable (xs (i + 1)) (xs (i + 2)) σ).2) ((ho, .inl (ty 1, 1, .inr (.inl o))) :: px)) sa (τ) H.size (xs (i + 1)) (xs (i + 2)) hk2) ⟨callB_of 2 hg (gw_C m_1428) rfl rfl rfl (hg _ m_13) (hg _ m_1425) hd_Mo_variable ⟨Nat.le_of_ble_eq_true rfl, Nat.le_of_ble_eq_true rfl⟩, hg _ m_1426, hg _ m_1427⟩ (zz_preVW hM hS (lA_in s) hN hK hP hD 0 rfl rfl) rfl rfl hl.1 rfl (lv_room (Nat.le_of_ble_eq_true rfl)) d_La_law_235 ⟨hcl0, hsl0⟩) hS (fun q _ h9 => zz_free hD hS (lA_in s) q h9) (zz_free hD hS (lA_in s)) (fun r235 u235 t H locs ht hvm hp hP1 hz9 hk9 hS => ?_)
  rw [ht] at hP1
  obtain ⟨rfl, rfl⟩ : r235 = (f_Mo_variable (xs (i + 1)) (xs (i + 2)) (τ)).1 ∧ u235 = (f_Mo_variable (xs (i + 1)) (xs (i + 2)) (τ)).2 := by rw [← hp]; exact ⟨rfl, rfl⟩
  clear hp
  have hP : va_P D classes (Wm ty g ((f_Mo_variable (xs (i + 1)) (xs (i + 2)) (τ)).2) (Wc ty h ((f_CL_variable (xs (i + 1)) (xs (i + 2)) σ).2) ((ho, .inl (ty 1, 1, .inr (.inl o))) :: px))) H := hP1
  have hD : va_D (lA s) (Wm ty g ((f_Mo_variable (xs (i + 1)) (xs (i + 2)) (τ)).2) (Wc ty h ((f_CL_variable (xs (i + 1)) (xs (i + 2)) σ).2) ((ho, .inl (ty 1, 1, .inr (.inl o))) :: px))) := zz_D hD rfl
  have hP : va_P D classes (Wc ty h ((f_CL_variable (xs (i + 1)) (xs (i + 2)) σ).2) ((ho, .inl (ty 1, 1, .inr (.inl o))) :: (px ++ Wm ty g ((f_Mo_variable (xs (i + 1)) (xs (i + 2)) (τ)).2) []))) H := rotP (a := Wm ty g ((f_Mo_variable (xs (i + 1)) (xs (i + 2)) (τ)).2) []) (b := Wc ty h ((f_CL_variable (xs (i + 1)) (xs (i + 2)) σ).2) ((ho, .inl (ty 1, 1, .inr (.inl o))) :: px)) hP
  have hD : va_D (lA s) (Wc ty h ((f_CL_variable (xs (i + 1)) (xs (i + 2)) σ).2) ((ho, .inl (ty 1, 1, .inr (.inl o))) :: (px ++ Wm ty g ((f_Mo_variable (xs (i + 1)) (xs (i + 2)) (τ)).2) []))) := rotD (a := Wm ty g ((f_Mo_variable (xs (i + 1)) (xs (i + 2)) (τ)).2) []) (b := Wc ty h ((f_CL_variable (xs (i + 1)) (xs (i + 2)) σ).2) ((ho, .inl (ty 1, 1, .inr (.inl o))) :: px)) hD
  refine lv_icmp_eq (tgt := 1287) hx hb d_La_law_238 (by decide) (fun _ => ?_) (fun hc => absurd hA1 hc)
  exact K _ _ _ (lv_sub hl [0, 1, 2, 3, 4] rfl) hP hD hS

set_option maxHeartbeats 4000000 in
set_option maxRecDepth 100000 in
theorem la_3 {p : Program} {l : Launch} {e : Env} {s : State} {m : MethodId} {args : Array Value} {below : List Frame} {meth : Method} {c : Code} {H : Heap} {locs : List Loc} {cells slots : Nat} {Q : State → Prop} {b L i ho : Nat} {xs : Nat → Int32} {D : va_G} {ty sa h g : Nat → Nat} {px : va_W} {σ τ : St} {o : Nat → Int64} {ls : Array Slot} (hlt : l.stackTraces = false) (C : lwC p s m args c b L xs D ty sa) (hi : i + 7 ≤ L) (hL : L < 2 ^ 31) (hcl0 : cells + 0 ≤ room_1.cells) (hsl0 : slots + 0 ≤ room_1.slots) (hl : lv_has ls 7 [(0, .ref b), (1, .ref (h 0)), (2, .ref (g 0)), (3, .ref ho), (4, .int (nI i))]) (hP : va_P D classes (Wc ty h σ ((ho, .inl (ty 1, 1, .inr (.inl o))) :: (px ++ Wm ty g (τ) []))) H) (hD : va_D (lA s) (Wc ty h σ ((ho, .inl (ty 1, 1, .inr (.inl o))) :: (px ++ Wm ty g (τ) [])))) (hS : va_S (lA s) s.heap H locs) (hk1 : k_CL_draft (((xs (i + 1)).toInt64 <<< ((32 : Int32).toInt64 &&& 63)) ||| ((xs (i + 2)).toInt64 &&& 4294967295)) σ) (hk2 : k_Mo_draft (((xs (i + 1)).toInt64 <<< ((32 : Int32).toInt64 &&& 63)) ||| ((xs (i + 2)).toInt64 &&& 4294967295)) τ) (hA1 : (f_CL_draft (((xs (i + 1)).toInt64 <<< ((32 : Int32).toInt64 &&& 63)) ||| ((xs (i + 2)).toInt64 &&& 4294967295)) σ).1 = (f_Mo_draft (((xs (i + 1)).toInt64 <<< ((32 : Int32).toInt64 &&& 63)) ||| ((xs (i + 2)).toInt64 &&& 4294967295)) (τ)).1)
    (K : ∀ (H : Heap) (locs : List Loc) (ls : Array Slot), lv_has ls 7 [(0, .ref b), (1, .ref (h 0)), (2, .ref (g 0)), (3, .ref ho), (4, .int (nI i))] → va_P D classes (Wc ty h ((f_CL_draft (((xs (i + 1)).toInt64 <<< ((32 : Int32).toInt64 &&& 63)) ||| ((xs (i + 2)).toInt64 &&& 4294967295)) σ).2) ((ho, .inl (ty 1, 1, .inr (.inl o))) :: (px ++ Wm ty g ((f_Mo_draft (((xs (i + 1)).toInt64 <<< ((32 : Int32).toInt64 &&& 63)) ||| ((xs (i + 2)).toInt64 &&& 4294967295)) (τ)).2) []))) H → va_D (lA s) (Wc ty h ((f_CL_draft (((xs (i + 1)).toInt64 <<< ((32 : Int32).toInt64 &&& 63)) ||| ((xs (i + 2)).toInt64 &&& 4294967295)) σ).2) ((ho, .inl (ty 1, 1, .inr (.inl o))) :: (px ++ Wm ty g ((f_Mo_draft (((xs (i + 1)).toInt64 <<< ((32 : Int32).toInt64 &&& 63)) ||| ((xs (i + 2)).toInt64 &&& 4294967295)) (τ)).2) []))) → va_S (lA s) s.heap H locs → W p l e room_1 s m args below meth c H locs cells slots Q (F0 m 1287 ls [])) : W p l e room_1 s m args below meth c H locs cells slots Q (F0 m 243 ls []) := by
  obtain ⟨hx, hb, hml, hown, hg, hXs, hbl, hK, hN, hNC, hXK, hM⟩ := C
  refine lv_aload_n hx hb d_La_law_243 rfl (lv_at hl 1 rfl) ?_
  refine lv_aload_n hx hb d_La_law_244 rfl (lv_at hl 0 rfl) ?_
  refine lv_iload hx hb d_La_law_245 (lv_at hl 4 rfl) ?_
  refine lv_iconst (v := nI 1) hx hb d_La_law_247 (by decide) ?_
  refine lv_iadd hx hb d_La_law_248 ?_
  refine la_ld (k := 1) hx hb hXs hbl hS (by omega) (by omega) d_La_law_249 ?_
  refine lv_i2l hx hb d_La_law_250 rfl ?_
  refine lv_bipush (v := 32) hx hb d_La_law_251 (by decide) ?_
  refine lv_lshl (v := (xs (i + 1)).toInt64 <<< ((32 : Int32).toInt64 &&& 63)) hx hb d_La_law_253 rfl ?_
  refine lv_aload_n hx hb d_La_law_254 rfl (lv_at hl 0 rfl) ?_
  refine lv_iload hx hb d_La_law_255 (lv_at hl 4 rfl) ?_
  refine lv_iconst (v := nI 2) hx hb d_La_law_257 (by decide) ?_
  refine lv_iadd hx hb d_La_law_258 ?_
  refine la_ld (k := 2) hx hb hXs hbl hS (by omega) (by omega) d_La_law_259 ?_
  refine lv_i2l hx hb d_La_law_260 rfl ?_
  refine lv_ldc2 (v := 4294967295) hx hb hown (hg _ m_1673) d_La_law_261 ?_
  refine lv_land hx hb d_La_law_264 ?_
  refine lv_lor hx hb d_La_law_265 ?_
  refine va_calli (va_runV (As := [.long (((xs (i + 1)).toInt64 <<< ((32 : Int32).toInt64 &&& 63)) ||| ((xs (i + 2)).toInt64 &&& 4294967295))]) (rest := []) ⟨hx, hb, hml, hown, hg⟩ (c_CL_draft l D ty h ((ho, .inl (ty 1, 1, .inr (.inl o))) :: (px ++ Wm ty g (τ) [])) sa σ H.size (((xs (i + 1)).toInt64 <<< ((32 : Int32).toInt64 &&& 63)) ||| ((xs (i + 2)).toInt64 &&& 4294967295)) hk1) ⟨callB_of 1 hg (gw_C m_361) rfl rfl rfl (hg _ m_1) (hg _ m_358) hd_CL_draft ⟨Nat.le_of_ble_eq_true rfl, Nat.le_of_ble_eq_true rfl⟩, hg _ m_359, hg _ m_360⟩ (zz_preVW hM hS (lA_in s) hN hK hP hD 0 rfl rfl) rfl rfl hl.1 rfl (lv_room (Nat.le_of_ble_eq_true rfl)) d_La_law_266 ⟨hcl0, hsl0⟩) hS (fun q _ h9 => zz_free hD hS (lA_in s) q h9) (zz_free hD hS (lA_in s)) (fun r266 u266 t H locs ht hvm hp hP1 hz9 hk9 hS => ?_)
  rw [ht] at hP1
  obtain ⟨rfl, rfl⟩ : r266 = (f_CL_draft (((xs (i + 1)).toInt64 <<< ((32 : Int32).toInt64 &&& 63)) ||| ((xs (i + 2)).toInt64 &&& 4294967295)) σ).1 ∧ u266 = (f_CL_draft (((xs (i + 1)).toInt64 <<< ((32 : Int32).toInt64 &&& 63)) ||| ((xs (i + 2)).toInt64 &&& 4294967295)) σ).2 := by rw [← hp]; exact ⟨rfl, rfl⟩
  clear hp
  have hP : va_P D classes (Wc ty h ((f_CL_draft (((xs (i + 1)).toInt64 <<< ((32 : Int32).toInt64 &&& 63)) ||| ((xs (i + 2)).toInt64 &&& 4294967295)) σ).2) ((ho, .inl (ty 1, 1, .inr (.inl o))) :: (px ++ Wm ty g (τ) []))) H := hP1
  have hD : va_D (lA s) (Wc ty h ((f_CL_draft (((xs (i + 1)).toInt64 <<< ((32 : Int32).toInt64 &&& 63)) ||| ((xs (i + 2)).toInt64 &&& 4294967295)) σ).2) ((ho, .inl (ty 1, 1, .inr (.inl o))) :: (px ++ Wm ty g (τ) []))) := zz_D hD rfl
  refine lv_aload_n hx hb d_La_law_269 rfl (lv_at hl 2 rfl) ?_
  refine lv_aload_n hx hb d_La_law_270 rfl (lv_at hl 0 rfl) ?_
  refine lv_iload hx hb d_La_law_271 (lv_at hl 4 rfl) ?_
  refine lv_iconst (v := nI 1) hx hb d_La_law_273 (by decide) ?_
  refine lv_iadd hx hb d_La_law_274 ?_
  refine la_ld (k := 1) hx hb hXs hbl hS (by omega) (by omega) d_La_law_275 ?_
  refine lv_i2l hx hb d_La_law_276 rfl ?_
  refine lv_bipush (v := 32) hx hb d_La_law_277 (by decide) ?_
  refine lv_lshl (v := (xs (i + 1)).toInt64 <<< ((32 : Int32).toInt64 &&& 63)) hx hb d_La_law_279 rfl ?_
  refine lv_aload_n hx hb d_La_law_280 rfl (lv_at hl 0 rfl) ?_
  refine lv_iload hx hb d_La_law_281 (lv_at hl 4 rfl) ?_
  refine lv_iconst (v := nI 2) hx hb d_La_law_283 (by decide) ?_
  refine lv_iadd hx hb d_La_law_284 ?_
  refine la_ld (k := 2) hx hb hXs hbl hS (by omega) (by omega) d_La_law_285 ?_
  refine lv_i2l hx hb d_La_law_286 rfl ?_
  refine lv_ldc2 (v := 4294967295) hx hb hown (hg _ m_1673) d_La_law_287 ?_
  refine lv_land hx hb d_La_law_290 ?_
  refine lv_lor hx hb d_La_law_291 ?_
  have hP : va_P D classes (Wm ty g (τ) (Wc ty h ((f_CL_draft (((xs (i + 1)).toInt64 <<< ((32 : Int32).toInt64 &&& 63)) ||| ((xs (i + 2)).toInt64 &&& 4294967295)) σ).2) ((ho, .inl (ty 1, 1, .inr (.inl o))) :: px))) H := rotP (a := Wc ty h ((f_CL_draft (((xs (i + 1)).toInt64 <<< ((32 : Int32).toInt64 &&& 63)) ||| ((xs (i + 2)).toInt64 &&& 4294967295)) σ).2) ((ho, .inl (ty 1, 1, .inr (.inl o))) :: px)) (b := Wm ty g (τ) []) hP
  have hD : va_D (lA s) (Wm ty g (τ) (Wc ty h ((f_CL_draft (((xs (i + 1)).toInt64 <<< ((32 : Int32).toInt64 &&& 63)) ||| ((xs (i + 2)).toInt64 &&& 4294967295)) σ).2) ((ho, .inl (ty 1, 1, .inr (.inl o))) :: px))) := rotD (a := Wc ty h ((f_CL_draft (((xs (i + 1)).toInt64 <<< ((32 : Int32).toInt64 &&& 63)) ||| ((xs (i + 2)).toInt64 &&& 4294967295)) σ).2) ((ho, .inl (ty 1, 1, .inr (.inl o))) :: px)) (b := Wm ty g (τ) []) hD
  refine va_calli (va_runV (As := [.long (((xs (i + 1)).toInt64 <<< ((32 : Int32).toInt64 &&& 63)) ||| ((xs (i + 2)).toInt64 &&& 4294967295))]) (rest := [.int (f_CL_draft (((xs (i + 1)).toInt64 <<< ((32 : Int32).toInt64 &&& 63)) ||| ((xs (i + 2)).toInt64 &&& 4294967295)) σ).1]) ⟨hx, hb, hml, hown, hg⟩ (c_Mo_draft l D ty g (Wc ty h ((f_CL_draft (((xs (i + 1)).toInt64 <<< ((32 : Int32).toInt64 &&& 63)) ||| ((xs (i + 2)).toInt64 &&& 4294967295)) σ).2) ((ho, .inl (ty 1, 1, .inr (.inl o))) :: px)) sa (τ) H.size (((xs (i + 1)).toInt64 <<< ((32 : Int32).toInt64 &&& 63)) ||| ((xs (i + 2)).toInt64 &&& 4294967295)) hk2) ⟨callB_of 1 hg (gw_C m_1432) rfl rfl rfl (hg _ m_13) (hg _ m_1429) hd_Mo_draft ⟨Nat.le_of_ble_eq_true rfl, Nat.le_of_ble_eq_true rfl⟩, hg _ m_1430, hg _ m_1431⟩ (zz_preVW hM hS (lA_in s) hN hK hP hD 0 rfl rfl) rfl rfl hl.1 rfl (lv_room (Nat.le_of_ble_eq_true rfl)) d_La_law_292 ⟨hcl0, hsl0⟩) hS (fun q _ h9 => zz_free hD hS (lA_in s) q h9) (zz_free hD hS (lA_in s)) (fun r292 u292 t H locs ht hvm hp hP1 hz9 hk9 hS => ?_)
  rw [ht] at hP1
  obtain ⟨rfl, rfl⟩ : r292 = (f_Mo_draft (((xs (i + 1)).toInt64 <<< ((32 : Int32).toInt64 &&& 63)) ||| ((xs (i + 2)).toInt64 &&& 4294967295)) (τ)).1 ∧ u292 = (f_Mo_draft (((xs (i + 1)).toInt64 <<< ((32 : Int32).toInt64 &&& 63)) ||| ((xs (i + 2)).toInt64 &&& 4294967295)) (τ)).2 := by rw [← hp]; exact ⟨rfl, rfl⟩
  clear hp
  have hP : va_P D classes (Wm ty g ((f_Mo_draft (((xs (i + 1)).toInt64 <<< ((32 : Int32).toInt64 &&& 63)) ||| ((xs (i + 2)).toInt64 &&& 4294967295)) (τ)).2) (Wc ty h ((f_CL_draft (((xs (i + 1)).toInt64 <<< ((32 : Int32).toInt64 &&& 63)) ||| ((xs (i + 2)).toInt64 &&& 4294967295)) σ).2) ((ho, .inl (ty 1, 1, .inr (.inl o))) :: px))) H := hP1
  have hD : va_D (lA s) (Wm ty g ((f_Mo_draft (((xs (i + 1)).toInt64 <<< ((32 : Int32).toInt64 &&& 63)) ||| ((xs (i + 2)).toInt64 &&& 4294967295)) (τ)).2) (Wc ty h ((f_CL_draft (((xs (i + 1)).toInt64 <<< ((32 : Int32).toInt64 &&& 63)) ||| ((xs (i + 2)).toInt64 &&& 4294967295)) σ).2) ((ho, .inl (ty 1, 1, .inr (.inl o))) :: px))) := zz_D hD rfl
  have hP : va_P D classes (Wc ty h ((f_CL_draft (((xs (i + 1)).toInt64 <<< ((32 : Int32).toInt64 &&& 63)) ||| ((xs (i + 2)).toInt64 &&& 4294967295)) σ).2) ((ho, .inl (ty 1, 1, .inr (.inl o))) :: (px ++ Wm ty g ((f_Mo_draft (((xs (i + 1)).toInt64 <<< ((32 : Int32).toInt64 &&& 63)) ||| ((xs (i + 2)).toInt64 &&& 4294967295)) (τ)).2) []))) H := rotP (a := Wm ty g ((f_Mo_draft (((xs (i + 1)).toInt64 <<< ((32 : Int32).toInt64 &&& 63)) ||| ((xs (i + 2)).toInt64 &&& 4294967295)) (τ)).2) []) (b := Wc ty h ((f_CL_draft (((xs (i + 1)).toInt64 <<< ((32 : Int32).toInt64 &&& 63)) ||| ((xs (i + 2)).toInt64 &&& 4294967295)) σ).2) ((ho, .inl (ty 1, 1, .inr (.inl o))) :: px)) hP
  have hD : va_D (lA s) (Wc ty h ((f_CL_draft (((xs (i + 1)).toInt64 <<< ((32 : Int32).toInt64 &&& 63)) ||| ((xs (i + 2)).toInt64 &&& 4294967295)) σ).2) ((ho, .inl (ty 1, 1, .inr (.inl o))) :: (px ++ Wm ty g ((f_Mo_draft (((xs (i + 1)).toInt64 <<< ((32 : Int32).toInt64 &&& 63)) ||| ((xs (i + 2)).toInt64 &&& 4294967295)) (τ)).2) []))) := rotD (a := Wm ty g ((f_Mo_draft (((xs (i + 1)).toInt64 <<< ((32 : Int32).toInt64 &&& 63)) ||| ((xs (i + 2)).toInt64 &&& 4294967295)) (τ)).2) []) (b := Wc ty h ((f_CL_draft (((xs (i + 1)).toInt64 <<< ((32 : Int32).toInt64 &&& 63)) ||| ((xs (i + 2)).toInt64 &&& 4294967295)) σ).2) ((ho, .inl (ty 1, 1, .inr (.inl o))) :: px)) hD
  refine lv_icmp_eq (tgt := 1287) hx hb d_La_law_295 (by decide) (fun _ => ?_) (fun hc => absurd hA1 hc)
  exact K _ _ _ (lv_sub hl [0, 1, 2, 3, 4] rfl) hP hD hS

set_option maxHeartbeats 4000000 in
set_option maxRecDepth 100000 in
theorem la_4 {p : Program} {l : Launch} {e : Env} {s : State} {m : MethodId} {args : Array Value} {below : List Frame} {meth : Method} {c : Code} {H : Heap} {locs : List Loc} {cells slots : Nat} {Q : State → Prop} {b L i ho : Nat} {xs : Nat → Int32} {D : va_G} {ty sa h g : Nat → Nat} {px : va_W} {σ τ : St} {o : Nat → Int64} {ls : Array Slot} (hlt : l.stackTraces = false) (C : lwC p s m args c b L xs D ty sa) (hi : i + 7 ≤ L) (hL : L < 2 ^ 31) (hcl : cells + 1 ≤ room_1.cells) (hsl : slots + 6 ≤ room_1.slots) (hl : lv_has ls 7 [(0, .ref b), (1, .ref (h 0)), (2, .ref (g 0)), (3, .ref ho), (4, .int (nI i))]) (hP : va_P D classes (Wc ty h σ ((ho, .inl (ty 1, 1, .inr (.inl o))) :: (px ++ Wm ty g (τ) []))) H) (hD : va_D (lA s) (Wc ty h σ ((ho, .inl (ty 1, 1, .inr (.inl o))) :: (px ++ Wm ty g (τ) [])))) (hS : va_S (lA s) s.heap H locs) (hk1 : k_CL_term σ) (hE : ∀ E, (f_CL_term σ).1 = .inr E → E = 2 ∨ E = 3 ∨ E = 4) (hk2 : k_Mo_term τ) (hA1 : (f_Mo_thrown ((f_Mo_term (τ)).2)) = (g_La_term σ o).1) (hA2 : (g_La_term σ o).1 = 0 → (g_La_term σ o).2.2 0 = (f_Mo_term τ).1.toInt64)
    (K : ∀ (H : Heap) (locs : List Loc) (ls : Array Slot), lv_has ls 7 [(0, .ref b), (1, .ref (h 0)), (2, .ref (g 0)), (3, .ref ho), (4, .int (nI i))] → va_P D classes (Wc ty h ((g_La_term σ o).2.1) ((ho, .inl (ty 1, 1, .inr (.inl ((g_La_term σ o).2.2)))) :: (px ++ Wm ty g ((f_Mo_term (τ)).2) []))) H → va_D (lA s) (Wc ty h ((g_La_term σ o).2.1) ((ho, .inl (ty 1, 1, .inr (.inl ((g_La_term σ o).2.2)))) :: (px ++ Wm ty g ((f_Mo_term (τ)).2) []))) → va_S (lA s) s.heap H locs → W p l e room_1 s m args below meth c H locs (cells + 1) (slots + 6) Q (F0 m 341 ls [])) : W p l e room_1 s m args below meth c H locs cells slots Q (F0 m 300 ls []) := by
  obtain ⟨hx, hb, hml, hown, hg, hXs, hbl, hK, hN, hNC, hXK, hM⟩ := C
  have hcl0 : cells + 1 + 0 ≤ room_1.cells := hcl
  have hsl0 : slots + 6 + 0 ≤ room_1.slots := hsl
  refine lv_aload_n hx hb d_La_law_300 rfl (lv_at hl 1 rfl) ?_
  refine lv_aload_n hx hb d_La_law_301 rfl (lv_at hl 3 rfl) ?_
  refine x_callSW (As := [.ref (h 0), .ref ho]) (rest := []) (n := 2) (mc := 1) (ms := 6) ⟨hx, hb, hml, hown, hg⟩ (c_La_term l hlt D ty h (px ++ Wm ty g τ []) sa ho o σ H.size hk1 hE) rfl rfl (Nat.le_of_ble_eq_true rfl) (Nat.le_of_ble_eq_true rfl) (pay_in hg (gw_C m_560)) List.mem_cons_self (hg _ m_560) (hg _ m_0) (hg _ m_559) (hg _ m_558) ⟨hd_La_term.1, hd_La_term.2.1⟩ (fun sig h9 => by have h8 := hd_La_term.2.2; rw [h9] at h8; exact (Option.some.inj h8).symm) (zz_preL hM hN hNC hXK hS (lA_in s) hK hP hD) rfl hl.1 rfl (Nat.le_of_ble_eq_true rfl) d_La_law_302 ⟨hcl, hsl⟩ (fun q9 st9 t9 h9 => by cases h9.2.2) (fun v9 st9 t9 L9 h09 hal9 hR9 hL9 => ?_)
  obtain ⟨hF9, hP9, hv9⟩ := hR9
  cases hv9
  have hS := zz_xS hS h09 hF9 (zz_free hD hS (lA_in s)) hL9
  have hP := hP9
  have hD : va_D (lA s) (Wc ty h ((g_La_term σ o).2.1) ((ho, .inl (ty 1, 1, .inr (.inl ((g_La_term σ o).2.2)))) :: (px ++ Wm ty g (τ) []))) := zz_D hD rfl
  generalize t9.heap = H at hP hS ⊢
  refine W.eq (g2 := F0 m 305 ls (.int (g_La_term σ o).1 :: [])) rfl ?_
  refine lv_istore (lv' := [(5, .int (g_La_term σ o).1), (0, .ref b), (1, .ref (h 0)), (2, .ref (g 0)), (3, .ref ho), (4, .int (nI i))]) hx hb d_La_law_305 hl (by decide) rfl (fun ls hl => ?_)
  refine lv_aload_n hx hb d_La_law_307 rfl (lv_at hl 3 rfl) ?_
  have hP : va_P D classes (Wm ty g (τ) (Wc ty h ((g_La_term σ o).2.1) ((ho, .inl (ty 1, 1, .inr (.inl ((g_La_term σ o).2.2)))) :: px))) H := rotP (a := Wc ty h ((g_La_term σ o).2.1) ((ho, .inl (ty 1, 1, .inr (.inl ((g_La_term σ o).2.2)))) :: px)) (b := Wm ty g (τ) []) hP
  have hD : va_D (lA s) (Wm ty g (τ) (Wc ty h ((g_La_term σ o).2.1) ((ho, .inl (ty 1, 1, .inr (.inl ((g_La_term σ o).2.2)))) :: px))) := rotD (a := Wc ty h ((g_La_term σ o).2.1) ((ho, .inl (ty 1, 1, .inr (.inl ((g_La_term σ o).2.2)))) :: px)) (b := Wm ty g (τ) []) hD
  refine va_calli (va_runV (As := []) (rest := []) ⟨hx, hb, hml, hown, hg⟩ (c_Mo_term l D ty g (Wc ty h ((g_La_term σ o).2.1) ((ho, .inl (ty 1, 1, .inr (.inl ((g_La_term σ o).2.2)))) :: px)) sa (τ) H.size hk2) ⟨callB_of 0 hg (gw_C m_1439) rfl rfl rfl (hg _ m_13) (hg _ m_1436) hd_Mo_term ⟨Nat.le_of_ble_eq_true rfl, Nat.le_of_ble_eq_true rfl⟩, hg _ m_1437, hg _ m_1438⟩ (zz_preVW hM hS (lA_in s) hN hK hP hD 0 rfl rfl) rfl rfl hl.1 rfl (lv_room (Nat.le_of_ble_eq_true rfl)) d_La_law_308 ⟨hcl0, hsl0⟩) hS (fun q _ h9 => zz_free hD hS (lA_in s) q h9) (zz_free hD hS (lA_in s)) (fun r308 u308 t H locs ht hvm hp hP1 hz9 hk9 hS => ?_)
  rw [ht] at hP1
  obtain ⟨rfl, rfl⟩ : r308 = (f_Mo_term (τ)).1 ∧ u308 = (f_Mo_term (τ)).2 := by rw [← hp]; exact ⟨rfl, rfl⟩
  clear hp
  have hP : va_P D classes (Wm ty g ((f_Mo_term (τ)).2) (Wc ty h ((g_La_term σ o).2.1) ((ho, .inl (ty 1, 1, .inr (.inl ((g_La_term σ o).2.2)))) :: px))) H := hP1
  have hD : va_D (lA s) (Wm ty g ((f_Mo_term (τ)).2) (Wc ty h ((g_La_term σ o).2.1) ((ho, .inl (ty 1, 1, .inr (.inl ((g_La_term σ o).2.2)))) :: px))) := zz_D hD rfl
  have hP : va_P D classes (Wc ty h ((g_La_term σ o).2.1) ((ho, .inl (ty 1, 1, .inr (.inl ((g_La_term σ o).2.2)))) :: (px ++ Wm ty g ((f_Mo_term (τ)).2) []))) H := rotP (a := Wm ty g ((f_Mo_term (τ)).2) []) (b := Wc ty h ((g_La_term σ o).2.1) ((ho, .inl (ty 1, 1, .inr (.inl ((g_La_term σ o).2.2)))) :: px)) hP
  have hD : va_D (lA s) (Wc ty h ((g_La_term σ o).2.1) ((ho, .inl (ty 1, 1, .inr (.inl ((g_La_term σ o).2.2)))) :: (px ++ Wm ty g ((f_Mo_term (τ)).2) []))) := rotD (a := Wm ty g ((f_Mo_term (τ)).2) []) (b := Wc ty h ((g_La_term σ o).2.1) ((ho, .inl (ty 1, 1, .inr (.inl ((g_La_term σ o).2.2)))) :: px)) hD
  refine lv_istore (lv' := [(6, .int (f_Mo_term (τ)).1), (5, .int (g_La_term σ o).1), (0, .ref b), (1, .ref (h 0)), (2, .ref (g 0)), (3, .ref ho), (4, .int (nI i))]) hx hb d_La_law_311 hl (by decide) rfl (fun ls hl => ?_)
  refine lv_aload_n hx hb d_La_law_313 rfl (lv_at hl 4 rfl) ?_
  have hP : va_P D classes (Wm ty g ((f_Mo_term (τ)).2) (Wc ty h ((g_La_term σ o).2.1) ((ho, .inl (ty 1, 1, .inr (.inl ((g_La_term σ o).2.2)))) :: px))) H := rotP (a := Wc ty h ((g_La_term σ o).2.1) ((ho, .inl (ty 1, 1, .inr (.inl ((g_La_term σ o).2.2)))) :: px)) (b := Wm ty g ((f_Mo_term (τ)).2) []) hP
  have hD : va_D (lA s) (Wm ty g ((f_Mo_term (τ)).2) (Wc ty h ((g_La_term σ o).2.1) ((ho, .inl (ty 1, 1, .inr (.inl ((g_La_term σ o).2.2)))) :: px))) := rotD (a := Wc ty h ((g_La_term σ o).2.1) ((ho, .inl (ty 1, 1, .inr (.inl ((g_La_term σ o).2.2)))) :: px)) (b := Wm ty g ((f_Mo_term (τ)).2) []) hD
  refine zz_callV (va_runV (As := []) (rest := []) ⟨hx, hb, hml, hown, hg⟩ (c_Mo_thrown l D ty g (Wc ty h ((g_La_term σ o).2.1) ((ho, .inl (ty 1, 1, .inr (.inl ((g_La_term σ o).2.2)))) :: px)) sa ((f_Mo_term (τ)).2) trivial) ⟨callB_of 0 hg (gw_C m_1416) rfl rfl rfl (hg _ m_13) (hg _ m_1413) hd_Mo_thrown ⟨Nat.le_of_ble_eq_true rfl, Nat.le_of_ble_eq_true rfl⟩, hg _ m_1414, hg _ m_1415⟩ (zz_preV (hM.at hS) hN hK hP 0 rfl rfl) rfl rfl hl.1 rfl (lv_room (Nat.le_of_ble_eq_true rfl)) d_La_law_314 ⟨hcl0, hsl0⟩) ?_
  have hP : va_P D classes (Wc ty h ((g_La_term σ o).2.1) ((ho, .inl (ty 1, 1, .inr (.inl ((g_La_term σ o).2.2)))) :: (px ++ Wm ty g ((f_Mo_term (τ)).2) []))) H := rotP (a := Wm ty g ((f_Mo_term (τ)).2) []) (b := Wc ty h ((g_La_term σ o).2.1) ((ho, .inl (ty 1, 1, .inr (.inl ((g_La_term σ o).2.2)))) :: px)) hP
  have hD : va_D (lA s) (Wc ty h ((g_La_term σ o).2.1) ((ho, .inl (ty 1, 1, .inr (.inl ((g_La_term σ o).2.2)))) :: (px ++ Wm ty g ((f_Mo_term (τ)).2) []))) := rotD (a := Wm ty g ((f_Mo_term (τ)).2) []) (b := Wc ty h ((g_La_term σ o).2.1) ((ho, .inl (ty 1, 1, .inr (.inl ((g_La_term σ o).2.2)))) :: px)) hD
  refine lv_iload hx hb d_La_law_317 (lv_at hl 1 rfl) ?_
  refine lv_icmp_eq (tgt := 324) hx hb d_La_law_319 (by decide) (fun _ => ?_) (fun hc => absurd hA1 hc)
  refine lv_iload hx hb d_La_law_324 (lv_at hl 1 rfl) ?_
  refine lv_if_ne (tgt := 341) hx hb d_La_law_326 (by decide) (fun _ => ?_) (fun hc => ?_)
  · exact K _ _ _ (lv_sub hl [2, 3, 4, 5, 6] rfl) hP hD hS
  refine lv_aload_n hx hb d_La_law_329 rfl (lv_at hl 5 rfl) ?_
  refine lv_iconst (v := 0) hx hb d_La_law_330 (by decide) ?_
  refine va_lald hx hb hK hP 36 1 rfl rfl (vp_in_iff.mpr (by decide)) d_La_law_331 ?_
  refine lv_iload hx hb d_La_law_332 (lv_at hl 0 rfl) ?_
  refine lv_i2l hx hb d_La_law_334 rfl ?_
  refine W.lcmp hx hb d_La_law_335 ?_
  refine lv_if_eq (tgt := 341) hx hb d_La_law_336 (by decide) (fun _ => ?_) (fun hc2 => absurd ((lg_cmp_eq _ _).mpr (hA2 hc)) hc2)
  exact K _ _ _ (lv_sub hl [2, 3, 4, 5, 6] rfl) hP hD hS

set_option maxHeartbeats 4000000 in
set_option maxRecDepth 100000 in
theorem la_5 {p : Program} {l : Launch} {e : Env} {s : State} {m : MethodId} {args : Array Value} {below : List Frame} {meth : Method} {c : Code} {H : Heap} {locs : List Loc} {cells slots : Nat} {Q : State → Prop} {b L i ho : Nat} {xs : Nat → Int32} {D : va_G} {ty sa h g : Nat → Nat} {px : va_W} {σ τ : St} {o : Nat → Int64} {ls : Array Slot} (hlt : l.stackTraces = false) (C : lwC p s m args c b L xs D ty sa) (hi : i + 7 ≤ L) (hL : L < 2 ^ 31) (hcl : cells + 1 ≤ room_1.cells) (hsl : slots + 6 ≤ room_1.slots) (hl : lv_has ls 7 [(0, .ref b), (1, .ref (h 0)), (2, .ref (g 0)), (3, .ref ho), (4, .int (nI i))]) (hP : va_P D classes (Wc ty h σ ((ho, .inl (ty 1, 1, .inr (.inl o))) :: (px ++ Wm ty g (τ) []))) H) (hD : va_D (lA s) (Wc ty h σ ((ho, .inl (ty 1, 1, .inr (.inl o))) :: (px ++ Wm ty g (τ) [])))) (hS : va_S (lA s) s.heap H locs) (hk1 : k_CL_assume (xs (i + 1)) σ) (hE : ∀ E, (f_CL_assume (xs (i + 1)) σ).1 = .inr E → E = 1 ∨ E = 2 ∨ E = 4) (hk2 : k_Mo_assume (xs (i + 1)) τ) (hA1 : (f_Mo_thrown ((f_Mo_assume (xs (i + 1)) (τ)).2)) = (g_La_assume (xs (i + 1)) σ o).1) (hA2 : (g_La_assume (xs (i + 1)) σ o).1 = 0 → (g_La_assume (xs (i + 1)) σ o).2.2 0 = (f_Mo_assume (xs (i + 1)) τ).1.toInt64)
    (K : ∀ (H : Heap) (locs : List Loc) (ls : Array Slot), lv_has ls 7 [(0, .ref b), (1, .ref (h 0)), (2, .ref (g 0)), (3, .ref ho), (4, .int (nI i))] → va_P D classes (Wc ty h ((g_La_assume (xs (i + 1)) σ o).2.1) ((ho, .inl (ty 1, 1, .inr (.inl ((g_La_assume (xs (i + 1)) σ o).2.2)))) :: (px ++ Wm ty g ((f_Mo_assume (xs (i + 1)) (τ)).2) []))) H → va_D (lA s) (Wc ty h ((g_La_assume (xs (i + 1)) σ o).2.1) ((ho, .inl (ty 1, 1, .inr (.inl ((g_La_assume (xs (i + 1)) σ o).2.2)))) :: (px ++ Wm ty g ((f_Mo_assume (xs (i + 1)) (τ)).2) []))) → va_S (lA s) s.heap H locs → W p l e room_1 s m args below meth c H locs (cells + 1) (slots + 6) Q (F0 m 397 ls [])) : W p l e room_1 s m args below meth c H locs cells slots Q (F0 m 344 ls []) := by
  obtain ⟨hx, hb, hml, hown, hg, hXs, hbl, hK, hN, hNC, hXK, hM⟩ := C
  have hcl0 : cells + 1 + 0 ≤ room_1.cells := hcl
  have hsl0 : slots + 6 + 0 ≤ room_1.slots := hsl
  refine lv_aload_n hx hb d_La_law_344 rfl (lv_at hl 1 rfl) ?_
  refine lv_aload_n hx hb d_La_law_345 rfl (lv_at hl 0 rfl) ?_
  refine lv_iload hx hb d_La_law_346 (lv_at hl 4 rfl) ?_
  refine lv_iconst (v := nI 1) hx hb d_La_law_348 (by decide) ?_
  refine lv_iadd hx hb d_La_law_349 ?_
  refine la_ld (k := 1) hx hb hXs hbl hS (by omega) (by omega) d_La_law_350 ?_
  refine lv_aload_n hx hb d_La_law_351 rfl (lv_at hl 3 rfl) ?_
  refine x_callSW (As := [.ref (h 0), .int (xs (i + 1)), .ref ho]) (rest := []) (n := 3) (mc := 1) (ms := 6) ⟨hx, hb, hml, hown, hg⟩ (c_La_assume l hlt D ty h (px ++ Wm ty g τ []) sa ho o σ H.size (xs (i + 1)) hk1 hE) rfl rfl (Nat.le_of_ble_eq_true rfl) (Nat.le_of_ble_eq_true rfl) (pay_in hg (gw_C m_905)) List.mem_cons_self (hg _ m_905) (hg _ m_0) (hg _ m_904) (hg _ m_903) ⟨hd_La_assume.1, hd_La_assume.2.1⟩ (fun sig h9 => by have h8 := hd_La_assume.2.2; rw [h9] at h8; exact (Option.some.inj h8).symm) (zz_preL hM hN hNC hXK hS (lA_in s) hK hP hD) rfl hl.1 rfl (Nat.le_of_ble_eq_true rfl) d_La_law_352 ⟨hcl, hsl⟩ (fun q9 st9 t9 h9 => by cases h9.2.2) (fun v9 st9 t9 L9 h09 hal9 hR9 hL9 => ?_)
  obtain ⟨hF9, hP9, hv9⟩ := hR9
  cases hv9
  have hS := zz_xS hS h09 hF9 (zz_free hD hS (lA_in s)) hL9
  have hP := hP9
  have hD : va_D (lA s) (Wc ty h ((g_La_assume (xs (i + 1)) σ o).2.1) ((ho, .inl (ty 1, 1, .inr (.inl ((g_La_assume (xs (i + 1)) σ o).2.2)))) :: (px ++ Wm ty g (τ) []))) := zz_D hD rfl
  generalize t9.heap = H at hP hS ⊢
  refine W.eq (g2 := F0 m 355 ls (.int (g_La_assume (xs (i + 1)) σ o).1 :: [])) rfl ?_
  refine lv_istore (lv' := [(5, .int (g_La_assume (xs (i + 1)) σ o).1), (0, .ref b), (1, .ref (h 0)), (2, .ref (g 0)), (3, .ref ho), (4, .int (nI i))]) hx hb d_La_law_355 hl (by decide) rfl (fun ls hl => ?_)
  refine lv_aload_n hx hb d_La_law_357 rfl (lv_at hl 3 rfl) ?_
  refine lv_aload_n hx hb d_La_law_358 rfl (lv_at hl 1 rfl) ?_
  refine lv_iload hx hb d_La_law_359 (lv_at hl 5 rfl) ?_
  refine lv_iconst (v := nI 1) hx hb d_La_law_361 (by decide) ?_
  refine lv_iadd hx hb d_La_law_362 ?_
  refine la_ld (k := 1) hx hb hXs hbl hS (by omega) (by omega) d_La_law_363 ?_
  have hP : va_P D classes (Wm ty g (τ) (Wc ty h ((g_La_assume (xs (i + 1)) σ o).2.1) ((ho, .inl (ty 1, 1, .inr (.inl ((g_La_assume (xs (i + 1)) σ o).2.2)))) :: px))) H := rotP (a := Wc ty h ((g_La_assume (xs (i + 1)) σ o).2.1) ((ho, .inl (ty 1, 1, .inr (.inl ((g_La_assume (xs (i + 1)) σ o).2.2)))) :: px)) (b := Wm ty g (τ) []) hP
  have hD : va_D (lA s) (Wm ty g (τ) (Wc ty h ((g_La_assume (xs (i + 1)) σ o).2.1) ((ho, .inl (ty 1, 1, .inr (.inl ((g_La_assume (xs (i + 1)) σ o).2.2)))) :: px))) := rotD (a := Wc ty h ((g_La_assume (xs (i + 1)) σ o).2.1) ((ho, .inl (ty 1, 1, .inr (.inl ((g_La_assume (xs (i + 1)) σ o).2.2)))) :: px)) (b := Wm ty g (τ) []) hD
  refine va_calli (va_runV (As := [.int (xs (i + 1))]) (rest := []) ⟨hx, hb, hml, hown, hg⟩ (c_Mo_assume l D ty g (Wc ty h ((g_La_assume (xs (i + 1)) σ o).2.1) ((ho, .inl (ty 1, 1, .inr (.inl ((g_La_assume (xs (i + 1)) σ o).2.2)))) :: px)) sa (τ) H.size (xs (i + 1)) hk2) ⟨callB_of 1 hg (gw_C m_1515) rfl rfl rfl (hg _ m_13) (hg _ m_1512) hd_Mo_assume ⟨Nat.le_of_ble_eq_true rfl, Nat.le_of_ble_eq_true rfl⟩, hg _ m_1513, hg _ m_1514⟩ (zz_preVW hM hS (lA_in s) hN hK hP hD 0 rfl rfl) rfl rfl hl.1 rfl (lv_room (Nat.le_of_ble_eq_true rfl)) d_La_law_364 ⟨hcl0, hsl0⟩) hS (fun q _ h9 => zz_free hD hS (lA_in s) q h9) (zz_free hD hS (lA_in s)) (fun r364 u364 t H locs ht hvm hp hP1 hz9 hk9 hS => ?_)
  rw [ht] at hP1
  obtain ⟨rfl, rfl⟩ : r364 = (f_Mo_assume (xs (i + 1)) (τ)).1 ∧ u364 = (f_Mo_assume (xs (i + 1)) (τ)).2 := by rw [← hp]; exact ⟨rfl, rfl⟩
  clear hp
  have hP : va_P D classes (Wm ty g ((f_Mo_assume (xs (i + 1)) (τ)).2) (Wc ty h ((g_La_assume (xs (i + 1)) σ o).2.1) ((ho, .inl (ty 1, 1, .inr (.inl ((g_La_assume (xs (i + 1)) σ o).2.2)))) :: px))) H := hP1
  have hD : va_D (lA s) (Wm ty g ((f_Mo_assume (xs (i + 1)) (τ)).2) (Wc ty h ((g_La_assume (xs (i + 1)) σ o).2.1) ((ho, .inl (ty 1, 1, .inr (.inl ((g_La_assume (xs (i + 1)) σ o).2.2)))) :: px))) := zz_D hD rfl
  have hP : va_P D classes (Wc ty h ((g_La_assume (xs (i + 1)) σ o).2.1) ((ho, .inl (ty 1, 1, .inr (.inl ((g_La_assume (xs (i + 1)) σ o).2.2)))) :: (px ++ Wm ty g ((f_Mo_assume (xs (i + 1)) (τ)).2) []))) H := rotP (a := Wm ty g ((f_Mo_assume (xs (i + 1)) (τ)).2) []) (b := Wc ty h ((g_La_assume (xs (i + 1)) σ o).2.1) ((ho, .inl (ty 1, 1, .inr (.inl ((g_La_assume (xs (i + 1)) σ o).2.2)))) :: px)) hP
  have hD : va_D (lA s) (Wc ty h ((g_La_assume (xs (i + 1)) σ o).2.1) ((ho, .inl (ty 1, 1, .inr (.inl ((g_La_assume (xs (i + 1)) σ o).2.2)))) :: (px ++ Wm ty g ((f_Mo_assume (xs (i + 1)) (τ)).2) []))) := rotD (a := Wm ty g ((f_Mo_assume (xs (i + 1)) (τ)).2) []) (b := Wc ty h ((g_La_assume (xs (i + 1)) σ o).2.1) ((ho, .inl (ty 1, 1, .inr (.inl ((g_La_assume (xs (i + 1)) σ o).2.2)))) :: px)) hD
  refine lv_istore (lv' := [(6, .int (f_Mo_assume (xs (i + 1)) (τ)).1), (5, .int (g_La_assume (xs (i + 1)) σ o).1), (0, .ref b), (1, .ref (h 0)), (2, .ref (g 0)), (3, .ref ho), (4, .int (nI i))]) hx hb d_La_law_367 hl (by decide) rfl (fun ls hl => ?_)
  refine lv_aload_n hx hb d_La_law_369 rfl (lv_at hl 4 rfl) ?_
  have hP : va_P D classes (Wm ty g ((f_Mo_assume (xs (i + 1)) (τ)).2) (Wc ty h ((g_La_assume (xs (i + 1)) σ o).2.1) ((ho, .inl (ty 1, 1, .inr (.inl ((g_La_assume (xs (i + 1)) σ o).2.2)))) :: px))) H := rotP (a := Wc ty h ((g_La_assume (xs (i + 1)) σ o).2.1) ((ho, .inl (ty 1, 1, .inr (.inl ((g_La_assume (xs (i + 1)) σ o).2.2)))) :: px)) (b := Wm ty g ((f_Mo_assume (xs (i + 1)) (τ)).2) []) hP
  have hD : va_D (lA s) (Wm ty g ((f_Mo_assume (xs (i + 1)) (τ)).2) (Wc ty h ((g_La_assume (xs (i + 1)) σ o).2.1) ((ho, .inl (ty 1, 1, .inr (.inl ((g_La_assume (xs (i + 1)) σ o).2.2)))) :: px))) := rotD (a := Wc ty h ((g_La_assume (xs (i + 1)) σ o).2.1) ((ho, .inl (ty 1, 1, .inr (.inl ((g_La_assume (xs (i + 1)) σ o).2.2)))) :: px)) (b := Wm ty g ((f_Mo_assume (xs (i + 1)) (τ)).2) []) hD
  refine zz_callV (va_runV (As := []) (rest := []) ⟨hx, hb, hml, hown, hg⟩ (c_Mo_thrown l D ty g (Wc ty h ((g_La_assume (xs (i + 1)) σ o).2.1) ((ho, .inl (ty 1, 1, .inr (.inl ((g_La_assume (xs (i + 1)) σ o).2.2)))) :: px)) sa ((f_Mo_assume (xs (i + 1)) (τ)).2) trivial) ⟨callB_of 0 hg (gw_C m_1416) rfl rfl rfl (hg _ m_13) (hg _ m_1413) hd_Mo_thrown ⟨Nat.le_of_ble_eq_true rfl, Nat.le_of_ble_eq_true rfl⟩, hg _ m_1414, hg _ m_1415⟩ (zz_preV (hM.at hS) hN hK hP 0 rfl rfl) rfl rfl hl.1 rfl (lv_room (Nat.le_of_ble_eq_true rfl)) d_La_law_370 ⟨hcl0, hsl0⟩) ?_
  have hP : va_P D classes (Wc ty h ((g_La_assume (xs (i + 1)) σ o).2.1) ((ho, .inl (ty 1, 1, .inr (.inl ((g_La_assume (xs (i + 1)) σ o).2.2)))) :: (px ++ Wm ty g ((f_Mo_assume (xs (i + 1)) (τ)).2) []))) H := rotP (a := Wm ty g ((f_Mo_assume (xs (i + 1)) (τ)).2) []) (b := Wc ty h ((g_La_assume (xs (i + 1)) σ o).2.1) ((ho, .inl (ty 1, 1, .inr (.inl ((g_La_assume (xs (i + 1)) σ o).2.2)))) :: px)) hP
  have hD : va_D (lA s) (Wc ty h ((g_La_assume (xs (i + 1)) σ o).2.1) ((ho, .inl (ty 1, 1, .inr (.inl ((g_La_assume (xs (i + 1)) σ o).2.2)))) :: (px ++ Wm ty g ((f_Mo_assume (xs (i + 1)) (τ)).2) []))) := rotD (a := Wm ty g ((f_Mo_assume (xs (i + 1)) (τ)).2) []) (b := Wc ty h ((g_La_assume (xs (i + 1)) σ o).2.1) ((ho, .inl (ty 1, 1, .inr (.inl ((g_La_assume (xs (i + 1)) σ o).2.2)))) :: px)) hD
  refine lv_iload hx hb d_La_law_373 (lv_at hl 1 rfl) ?_
  refine lv_icmp_eq (tgt := 380) hx hb d_La_law_375 (by decide) (fun _ => ?_) (fun hc => absurd hA1 hc)
  refine lv_iload hx hb d_La_law_380 (lv_at hl 1 rfl) ?_
  refine lv_if_ne (tgt := 397) hx hb d_La_law_382 (by decide) (fun _ => ?_) (fun hc => ?_)
  · exact K _ _ _ (lv_sub hl [2, 3, 4, 5, 6] rfl) hP hD hS
  refine lv_aload_n hx hb d_La_law_385 rfl (lv_at hl 5 rfl) ?_
  refine lv_iconst (v := 0) hx hb d_La_law_386 (by decide) ?_
  refine va_lald hx hb hK hP 36 1 rfl rfl (vp_in_iff.mpr (by decide)) d_La_law_387 ?_
  refine lv_iload hx hb d_La_law_388 (lv_at hl 0 rfl) ?_
  refine lv_i2l hx hb d_La_law_390 rfl ?_
  refine W.lcmp hx hb d_La_law_391 ?_
  refine lv_if_eq (tgt := 397) hx hb d_La_law_392 (by decide) (fun _ => ?_) (fun hc2 => absurd ((lg_cmp_eq _ _).mpr (hA2 hc)) hc2)
  exact K _ _ _ (lv_sub hl [2, 3, 4, 5, 6] rfl) hP hD hS

set_option maxHeartbeats 4000000 in
set_option maxRecDepth 100000 in
theorem la_6 {p : Program} {l : Launch} {e : Env} {s : State} {m : MethodId} {args : Array Value} {below : List Frame} {meth : Method} {c : Code} {H : Heap} {locs : List Loc} {cells slots : Nat} {Q : State → Prop} {b L i ho : Nat} {xs : Nat → Int32} {D : va_G} {ty sa h g : Nat → Nat} {px : va_W} {σ τ : St} {o : Nat → Int64} {ls : Array Slot} (hlt : l.stackTraces = false) (C : lwC p s m args c b L xs D ty sa) (hi : i + 7 ≤ L) (hL : L < 2 ^ 31) (hcl : cells + 1 ≤ room_1.cells) (hsl : slots + 6 ≤ room_1.slots) (hl : lv_has ls 7 [(0, .ref b), (1, .ref (h 0)), (2, .ref (g 0)), (3, .ref ho), (4, .int (nI i))]) (hP : va_P D classes (Wc ty h σ ((ho, .inl (ty 1, 1, .inr (.inl o))) :: (px ++ Wm ty g (τ) []))) H) (hD : va_D (lA s) (Wc ty h σ ((ho, .inl (ty 1, 1, .inr (.inl o))) :: (px ++ Wm ty g (τ) [])))) (hS : va_S (lA s) s.heap H locs) (hk1 : k_CL_cut (xs (i + 1)) (xs (i + 2)) (xs (i + 3)) σ) (hE : ∀ E, (f_CL_cut (xs (i + 1)) (xs (i + 2)) (xs (i + 3)) σ).1 = .inr E → E = 1 ∨ E = 2 ∨ E = 3 ∨ E = 4) (hk2 : k_Mo_cut (xs (i + 1)) (xs (i + 2)) (xs (i + 3)) τ) (hA1 : (f_Mo_thrown ((f_Mo_cut (xs (i + 1)) (xs (i + 2)) (xs (i + 3)) (τ)).2)) = (g_La_cut (xs (i + 1)) (xs (i + 2)) (xs (i + 3)) σ o).1) (hA2 : (g_La_cut (xs (i + 1)) (xs (i + 2)) (xs (i + 3)) σ o).1 = 0 → (g_La_cut (xs (i + 1)) (xs (i + 2)) (xs (i + 3)) σ o).2.2 0 = (f_Mo_cut (xs (i + 1)) (xs (i + 2)) (xs (i + 3)) τ).1.toInt64)
    (K : ∀ (H : Heap) (locs : List Loc) (ls : Array Slot), lv_has ls 7 [(0, .ref b), (1, .ref (h 0)), (2, .ref (g 0)), (3, .ref ho), (4, .int (nI i))] → va_P D classes (Wc ty h ((g_La_cut (xs (i + 1)) (xs (i + 2)) (xs (i + 3)) σ o).2.1) ((ho, .inl (ty 1, 1, .inr (.inl ((g_La_cut (xs (i + 1)) (xs (i + 2)) (xs (i + 3)) σ o).2.2)))) :: (px ++ Wm ty g ((f_Mo_cut (xs (i + 1)) (xs (i + 2)) (xs (i + 3)) (τ)).2) []))) H → va_D (lA s) (Wc ty h ((g_La_cut (xs (i + 1)) (xs (i + 2)) (xs (i + 3)) σ o).2.1) ((ho, .inl (ty 1, 1, .inr (.inl ((g_La_cut (xs (i + 1)) (xs (i + 2)) (xs (i + 3)) σ o).2.2)))) :: (px ++ Wm ty g ((f_Mo_cut (xs (i + 1)) (xs (i + 2)) (xs (i + 3)) (τ)).2) []))) → va_S (lA s) s.heap H locs → W p l e room_1 s m args below meth c H locs (cells + 1) (slots + 6) Q (F0 m 477 ls [])) : W p l e room_1 s m args below meth c H locs cells slots Q (F0 m 400 ls []) := by
  obtain ⟨hx, hb, hml, hown, hg, hXs, hbl, hK, hN, hNC, hXK, hM⟩ := C
  have hcl0 : cells + 1 + 0 ≤ room_1.cells := hcl
  have hsl0 : slots + 6 + 0 ≤ room_1.slots := hsl
  refine lv_aload_n hx hb d_La_law_400 rfl (lv_at hl 1 rfl) ?_
  refine lv_aload_n hx hb d_La_law_401 rfl (lv_at hl 0 rfl) ?_
  refine lv_iload hx hb d_La_law_402 (lv_at hl 4 rfl) ?_
  refine lv_iconst (v := nI 1) hx hb d_La_law_404 (by decide) ?_
  refine lv_iadd hx hb d_La_law_405 ?_
  refine la_ld (k := 1) hx hb hXs hbl hS (by omega) (by omega) d_La_law_406 ?_
  refine lv_aload_n hx hb d_La_law_407 rfl (lv_at hl 0 rfl) ?_
  refine lv_iload hx hb d_La_law_408 (lv_at hl 4 rfl) ?_
  refine lv_iconst (v := nI 2) hx hb d_La_law_410 (by decide) ?_
  refine lv_iadd hx hb d_La_law_411 ?_
  refine la_ld (k := 2) hx hb hXs hbl hS (by omega) (by omega) d_La_law_412 ?_
  refine lv_aload_n hx hb d_La_law_413 rfl (lv_at hl 0 rfl) ?_
  refine lv_iload hx hb d_La_law_414 (lv_at hl 4 rfl) ?_
  refine lv_iconst (v := nI 3) hx hb d_La_law_416 (by decide) ?_
  refine lv_iadd hx hb d_La_law_417 ?_
  refine la_ld (k := 3) hx hb hXs hbl hS (by omega) (by omega) d_La_law_418 ?_
  refine lv_aload_n hx hb d_La_law_419 rfl (lv_at hl 3 rfl) ?_
  refine x_callSW (As := [.ref (h 0), .int (xs (i + 1)), .int (xs (i + 2)), .int (xs (i + 3)), .ref ho]) (rest := []) (n := 5) (mc := 1) (ms := 6) ⟨hx, hb, hml, hown, hg⟩ (c_La_cut l hlt D ty h (px ++ Wm ty g τ []) sa ho o σ H.size (xs (i + 1)) (xs (i + 2)) (xs (i + 3)) hk1 hE) rfl rfl (Nat.le_of_ble_eq_true rfl) (Nat.le_of_ble_eq_true rfl) (pay_in hg (gw_C m_969)) List.mem_cons_self (hg _ m_969) (hg _ m_0) (hg _ m_968) (hg _ m_967) ⟨hd_La_cut.1, hd_La_cut.2.1⟩ (fun sig h9 => by have h8 := hd_La_cut.2.2; rw [h9] at h8; exact (Option.some.inj h8).symm) (zz_preL hM hN hNC hXK hS (lA_in s) hK hP hD) rfl hl.1 rfl (Nat.le_of_ble_eq_true rfl) d_La_law_420 ⟨hcl, hsl⟩ (fun q9 st9 t9 h9 => by cases h9.2.2) (fun v9 st9 t9 L9 h09 hal9 hR9 hL9 => ?_)
  obtain ⟨hF9, hP9, hv9⟩ := hR9
  cases hv9
  have hS := zz_xS hS h09 hF9 (zz_free hD hS (lA_in s)) hL9
  have hP := hP9
  have hD : va_D (lA s) (Wc ty h ((g_La_cut (xs (i + 1)) (xs (i + 2)) (xs (i + 3)) σ o).2.1) ((ho, .inl (ty 1, 1, .inr (.inl ((g_La_cut (xs (i + 1)) (xs (i + 2)) (xs (i + 3)) σ o).2.2)))) :: (px ++ Wm ty g (τ) []))) := zz_D hD rfl
  generalize t9.heap = H at hP hS ⊢
  refine W.eq (g2 := F0 m 423 ls (.int (g_La_cut (xs (i + 1)) (xs (i + 2)) (xs (i + 3)) σ o).1 :: [])) rfl ?_
  refine lv_istore (lv' := [(5, .int (g_La_cut (xs (i + 1)) (xs (i + 2)) (xs (i + 3)) σ o).1), (0, .ref b), (1, .ref (h 0)), (2, .ref (g 0)), (3, .ref ho), (4, .int (nI i))]) hx hb d_La_law_423 hl (by decide) rfl (fun ls hl => ?_)
  refine lv_aload_n hx hb d_La_law_425 rfl (lv_at hl 3 rfl) ?_
  refine lv_aload_n hx hb d_La_law_426 rfl (lv_at hl 1 rfl) ?_
  refine lv_iload hx hb d_La_law_427 (lv_at hl 5 rfl) ?_
  refine lv_iconst (v := nI 1) hx hb d_La_law_429 (by decide) ?_
  refine lv_iadd hx hb d_La_law_430 ?_
  refine la_ld (k := 1) hx hb hXs hbl hS (by omega) (by omega) d_La_law_431 ?_
  refine lv_aload_n hx hb d_La_law_432 rfl (lv_at hl 1 rfl) ?_
  refine lv_iload hx hb d_La_law_433 (lv_at hl 5 rfl) ?_
  refine lv_iconst (v := nI 2) hx hb d_La_law_435 (by decide) ?_
  refine lv_iadd hx hb d_La_law_436 ?_
  refine la_ld (k := 2) hx hb hXs hbl hS (by omega) (by omega) d_La_law_437 ?_
  refine lv_aload_n hx hb d_La_law_438 rfl (lv_at hl 1 rfl) ?_
  refine lv_iload hx hb d_La_law_439 (lv_at hl 5 rfl) ?_
  refine lv_iconst (v := nI 3) hx hb d_La_law_441 (by decide) ?_
  refine lv_iadd hx hb d_La_law_442 ?_
  refine la_ld (k := 3) hx hb hXs hbl hS (by omega) (by omega) d_La_law_443 ?_
  have hP : va_P D classes (Wm ty g (τ) (Wc ty h ((g_La_cut (xs (i + 1)) (xs (i + 2)) (xs (i + 3)) σ o).2.1) ((ho, .inl (ty 1, 1, .inr (.inl ((g_La_cut (xs (i + 1)) (xs (i + 2)) (xs (i + 3)) σ o).2.2)))) :: px))) H := rotP (a := Wc ty h ((g_La_cut (xs (i + 1)) (xs (i + 2)) (xs (i + 3)) σ o).2.1) ((ho, .inl (ty 1, 1, .inr (.inl ((g_La_cut (xs (i + 1)) (xs (i + 2)) (xs (i + 3)) σ o).2.2)))) :: px)) (b := Wm ty g (τ) []) hP
  have hD : va_D (lA s) (Wm ty g (τ) (Wc ty h ((g_La_cut (xs (i + 1)) (xs (i + 2)) (xs (i + 3)) σ o).2.1) ((ho, .inl (ty 1, 1, .inr (.inl ((g_La_cut (xs (i + 1)) (xs (i + 2)) (xs (i + 3)) σ o).2.2)))) :: px))) := rotD (a := Wc ty h ((g_La_cut (xs (i + 1)) (xs (i + 2)) (xs (i + 3)) σ o).2.1) ((ho, .inl (ty 1, 1, .inr (.inl ((g_La_cut (xs (i + 1)) (xs (i + 2)) (xs (i + 3)) σ o).2.2)))) :: px)) (b := Wm ty g (τ) []) hD
  refine va_calli (va_runV (As := [.int (xs (i + 1)), .int (xs (i + 2)), .int (xs (i + 3))]) (rest := []) ⟨hx, hb, hml, hown, hg⟩ (c_Mo_cut l D ty g (Wc ty h ((g_La_cut (xs (i + 1)) (xs (i + 2)) (xs (i + 3)) σ o).2.1) ((ho, .inl (ty 1, 1, .inr (.inl ((g_La_cut (xs (i + 1)) (xs (i + 2)) (xs (i + 3)) σ o).2.2)))) :: px)) sa (τ) H.size (xs (i + 1)) (xs (i + 2)) (xs (i + 3)) hk2) ⟨callB_of 3 hg (gw_C m_1531) rfl rfl rfl (hg _ m_13) (hg _ m_1528) hd_Mo_cut ⟨Nat.le_of_ble_eq_true rfl, Nat.le_of_ble_eq_true rfl⟩, hg _ m_1529, hg _ m_1530⟩ (zz_preVW hM hS (lA_in s) hN hK hP hD 0 rfl rfl) rfl rfl hl.1 rfl (lv_room (Nat.le_of_ble_eq_true rfl)) d_La_law_444 ⟨hcl0, hsl0⟩) hS (fun q _ h9 => zz_free hD hS (lA_in s) q h9) (zz_free hD hS (lA_in s)) (fun r444 u444 t H locs ht hvm hp hP1 hz9 hk9 hS => ?_)
  rw [ht] at hP1
  obtain ⟨rfl, rfl⟩ : r444 = (f_Mo_cut (xs (i + 1)) (xs (i + 2)) (xs (i + 3)) (τ)).1 ∧ u444 = (f_Mo_cut (xs (i + 1)) (xs (i + 2)) (xs (i + 3)) (τ)).2 := by rw [← hp]; exact ⟨rfl, rfl⟩
  clear hp
  have hP : va_P D classes (Wm ty g ((f_Mo_cut (xs (i + 1)) (xs (i + 2)) (xs (i + 3)) (τ)).2) (Wc ty h ((g_La_cut (xs (i + 1)) (xs (i + 2)) (xs (i + 3)) σ o).2.1) ((ho, .inl (ty 1, 1, .inr (.inl ((g_La_cut (xs (i + 1)) (xs (i + 2)) (xs (i + 3)) σ o).2.2)))) :: px))) H := hP1
  have hD : va_D (lA s) (Wm ty g ((f_Mo_cut (xs (i + 1)) (xs (i + 2)) (xs (i + 3)) (τ)).2) (Wc ty h ((g_La_cut (xs (i + 1)) (xs (i + 2)) (xs (i + 3)) σ o).2.1) ((ho, .inl (ty 1, 1, .inr (.inl ((g_La_cut (xs (i + 1)) (xs (i + 2)) (xs (i + 3)) σ o).2.2)))) :: px))) := zz_D hD rfl
  have hP : va_P D classes (Wc ty h ((g_La_cut (xs (i + 1)) (xs (i + 2)) (xs (i + 3)) σ o).2.1) ((ho, .inl (ty 1, 1, .inr (.inl ((g_La_cut (xs (i + 1)) (xs (i + 2)) (xs (i + 3)) σ o).2.2)))) :: (px ++ Wm ty g ((f_Mo_cut (xs (i + 1)) (xs (i + 2)) (xs (i + 3)) (τ)).2) []))) H := rotP (a := Wm ty g ((f_Mo_cut (xs (i + 1)) (xs (i + 2)) (xs (i + 3)) (τ)).2) []) (b := Wc ty h ((g_La_cut (xs (i + 1)) (xs (i + 2)) (xs (i + 3)) σ o).2.1) ((ho, .inl (ty 1, 1, .inr (.inl ((g_La_cut (xs (i + 1)) (xs (i + 2)) (xs (i + 3)) σ o).2.2)))) :: px)) hP
  have hD : va_D (lA s) (Wc ty h ((g_La_cut (xs (i + 1)) (xs (i + 2)) (xs (i + 3)) σ o).2.1) ((ho, .inl (ty 1, 1, .inr (.inl ((g_La_cut (xs (i + 1)) (xs (i + 2)) (xs (i + 3)) σ o).2.2)))) :: (px ++ Wm ty g ((f_Mo_cut (xs (i + 1)) (xs (i + 2)) (xs (i + 3)) (τ)).2) []))) := rotD (a := Wm ty g ((f_Mo_cut (xs (i + 1)) (xs (i + 2)) (xs (i + 3)) (τ)).2) []) (b := Wc ty h ((g_La_cut (xs (i + 1)) (xs (i + 2)) (xs (i + 3)) σ o).2.1) ((ho, .inl (ty 1, 1, .inr (.inl ((g_La_cut (xs (i + 1)) (xs (i + 2)) (xs (i + 3)) σ o).2.2)))) :: px)) hD
  refine lv_istore (lv' := [(6, .int (f_Mo_cut (xs (i + 1)) (xs (i + 2)) (xs (i + 3)) (τ)).1), (5, .int (g_La_cut (xs (i + 1)) (xs (i + 2)) (xs (i + 3)) σ o).1), (0, .ref b), (1, .ref (h 0)), (2, .ref (g 0)), (3, .ref ho), (4, .int (nI i))]) hx hb d_La_law_447 hl (by decide) rfl (fun ls hl => ?_)
  refine lv_aload_n hx hb d_La_law_449 rfl (lv_at hl 4 rfl) ?_
  have hP : va_P D classes (Wm ty g ((f_Mo_cut (xs (i + 1)) (xs (i + 2)) (xs (i + 3)) (τ)).2) (Wc ty h ((g_La_cut (xs (i + 1)) (xs (i + 2)) (xs (i + 3)) σ o).2.1) ((ho, .inl (ty 1, 1, .inr (.inl ((g_La_cut (xs (i + 1)) (xs (i + 2)) (xs (i + 3)) σ o).2.2)))) :: px))) H := rotP (a := Wc ty h ((g_La_cut (xs (i + 1)) (xs (i + 2)) (xs (i + 3)) σ o).2.1) ((ho, .inl (ty 1, 1, .inr (.inl ((g_La_cut (xs (i + 1)) (xs (i + 2)) (xs (i + 3)) σ o).2.2)))) :: px)) (b := Wm ty g ((f_Mo_cut (xs (i + 1)) (xs (i + 2)) (xs (i + 3)) (τ)).2) []) hP
  have hD : va_D (lA s) (Wm ty g ((f_Mo_cut (xs (i + 1)) (xs (i + 2)) (xs (i + 3)) (τ)).2) (Wc ty h ((g_La_cut (xs (i + 1)) (xs (i + 2)) (xs (i + 3)) σ o).2.1) ((ho, .inl (ty 1, 1, .inr (.inl ((g_La_cut (xs (i + 1)) (xs (i + 2)) (xs (i + 3)) σ o).2.2)))) :: px))) := rotD (a := Wc ty h ((g_La_cut (xs (i + 1)) (xs (i + 2)) (xs (i + 3)) σ o).2.1) ((ho, .inl (ty 1, 1, .inr (.inl ((g_La_cut (xs (i + 1)) (xs (i + 2)) (xs (i + 3)) σ o).2.2)))) :: px)) (b := Wm ty g ((f_Mo_cut (xs (i + 1)) (xs (i + 2)) (xs (i + 3)) (τ)).2) []) hD
  refine zz_callV (va_runV (As := []) (rest := []) ⟨hx, hb, hml, hown, hg⟩ (c_Mo_thrown l D ty g (Wc ty h ((g_La_cut (xs (i + 1)) (xs (i + 2)) (xs (i + 3)) σ o).2.1) ((ho, .inl (ty 1, 1, .inr (.inl ((g_La_cut (xs (i + 1)) (xs (i + 2)) (xs (i + 3)) σ o).2.2)))) :: px)) sa ((f_Mo_cut (xs (i + 1)) (xs (i + 2)) (xs (i + 3)) (τ)).2) trivial) ⟨callB_of 0 hg (gw_C m_1416) rfl rfl rfl (hg _ m_13) (hg _ m_1413) hd_Mo_thrown ⟨Nat.le_of_ble_eq_true rfl, Nat.le_of_ble_eq_true rfl⟩, hg _ m_1414, hg _ m_1415⟩ (zz_preV (hM.at hS) hN hK hP 0 rfl rfl) rfl rfl hl.1 rfl (lv_room (Nat.le_of_ble_eq_true rfl)) d_La_law_450 ⟨hcl0, hsl0⟩) ?_
  have hP : va_P D classes (Wc ty h ((g_La_cut (xs (i + 1)) (xs (i + 2)) (xs (i + 3)) σ o).2.1) ((ho, .inl (ty 1, 1, .inr (.inl ((g_La_cut (xs (i + 1)) (xs (i + 2)) (xs (i + 3)) σ o).2.2)))) :: (px ++ Wm ty g ((f_Mo_cut (xs (i + 1)) (xs (i + 2)) (xs (i + 3)) (τ)).2) []))) H := rotP (a := Wm ty g ((f_Mo_cut (xs (i + 1)) (xs (i + 2)) (xs (i + 3)) (τ)).2) []) (b := Wc ty h ((g_La_cut (xs (i + 1)) (xs (i + 2)) (xs (i + 3)) σ o).2.1) ((ho, .inl (ty 1, 1, .inr (.inl ((g_La_cut (xs (i + 1)) (xs (i + 2)) (xs (i + 3)) σ o).2.2)))) :: px)) hP
  have hD : va_D (lA s) (Wc ty h ((g_La_cut (xs (i + 1)) (xs (i + 2)) (xs (i + 3)) σ o).2.1) ((ho, .inl (ty 1, 1, .inr (.inl ((g_La_cut (xs (i + 1)) (xs (i + 2)) (xs (i + 3)) σ o).2.2)))) :: (px ++ Wm ty g ((f_Mo_cut (xs (i + 1)) (xs (i + 2)) (xs (i + 3)) (τ)).2) []))) := rotD (a := Wm ty g ((f_Mo_cut (xs (i + 1)) (xs (i + 2)) (xs (i + 3)) (τ)).2) []) (b := Wc ty h ((g_La_cut (xs (i + 1)) (xs (i + 2)) (xs (i + 3)) σ o).2.1) ((ho, .inl (ty 1, 1, .inr (.inl ((g_La_cut (xs (i + 1)) (xs (i + 2)) (xs (i + 3)) σ o).2.2)))) :: px)) hD
  refine lv_iload hx hb d_La_law_453 (lv_at hl 1 rfl) ?_
  refine lv_icmp_eq (tgt := 460) hx hb d_La_law_455 (by decide) (fun _ => ?_) (fun hc => absurd hA1 hc)
  refine lv_iload hx hb d_La_law_460 (lv_at hl 1 rfl) ?_
  refine lv_if_ne (tgt := 477) hx hb d_La_law_462 (by decide) (fun _ => ?_) (fun hc => ?_)
  · exact K _ _ _ (lv_sub hl [2, 3, 4, 5, 6] rfl) hP hD hS
  refine lv_aload_n hx hb d_La_law_465 rfl (lv_at hl 5 rfl) ?_
  refine lv_iconst (v := 0) hx hb d_La_law_466 (by decide) ?_
  refine va_lald hx hb hK hP 36 1 rfl rfl (vp_in_iff.mpr (by decide)) d_La_law_467 ?_
  refine lv_iload hx hb d_La_law_468 (lv_at hl 0 rfl) ?_
  refine lv_i2l hx hb d_La_law_470 rfl ?_
  refine W.lcmp hx hb d_La_law_471 ?_
  refine lv_if_eq (tgt := 477) hx hb d_La_law_472 (by decide) (fun _ => ?_) (fun hc2 => absurd ((lg_cmp_eq _ _).mpr (hA2 hc)) hc2)
  exact K _ _ _ (lv_sub hl [2, 3, 4, 5, 6] rfl) hP hD hS

set_option maxHeartbeats 4000000 in
set_option maxRecDepth 100000 in
theorem la_7 {p : Program} {l : Launch} {e : Env} {s : State} {m : MethodId} {args : Array Value} {below : List Frame} {meth : Method} {c : Code} {H : Heap} {locs : List Loc} {cells slots : Nat} {Q : State → Prop} {b L i ho : Nat} {xs : Nat → Int32} {D : va_G} {ty sa h g : Nat → Nat} {px : va_W} {σ τ : St} {o : Nat → Int64} {ls : Array Slot} (hlt : l.stackTraces = false) (C : lwC p s m args c b L xs D ty sa) (hi : i + 7 ≤ L) (hL : L < 2 ^ 31) (hcl : cells + 1 ≤ room_1.cells) (hsl : slots + 6 ≤ room_1.slots) (hl : lv_has ls 7 [(0, .ref b), (1, .ref (h 0)), (2, .ref (g 0)), (3, .ref ho), (4, .int (nI i))]) (hP : va_P D classes (Wc ty h σ ((ho, .inl (ty 1, 1, .inr (.inl o))) :: (px ++ Wm ty g (τ) []))) H) (hD : va_D (lA s) (Wc ty h σ ((ho, .inl (ty 1, 1, .inr (.inl o))) :: (px ++ Wm ty g (τ) [])))) (hS : va_S (lA s) s.heap H locs) (hk1 : k_CL_widen (xs (i + 1)) (xs (i + 2)) σ) (hE : ∀ E, (f_CL_widen (xs (i + 1)) (xs (i + 2)) σ).1 = .inr E → E = 1 ∨ E = 2 ∨ E = 4) (hk2 : k_Mo_widen (xs (i + 1)) (xs (i + 2)) τ) (hA1 : (f_Mo_thrown ((f_Mo_widen (xs (i + 1)) (xs (i + 2)) (τ)).2)) = (g_La_widen (xs (i + 1)) (xs (i + 2)) σ o).1) (hA2 : (g_La_widen (xs (i + 1)) (xs (i + 2)) σ o).1 = 0 → (g_La_widen (xs (i + 1)) (xs (i + 2)) σ o).2.2 0 = (f_Mo_widen (xs (i + 1)) (xs (i + 2)) τ).1.toInt64)
    (K : ∀ (H : Heap) (locs : List Loc) (ls : Array Slot), lv_has ls 7 [(0, .ref b), (1, .ref (h 0)), (2, .ref (g 0)), (3, .ref ho), (4, .int (nI i))] → va_P D classes (Wc ty h ((g_La_widen (xs (i + 1)) (xs (i + 2)) σ o).2.1) ((ho, .inl (ty 1, 1, .inr (.inl ((g_La_widen (xs (i + 1)) (xs (i + 2)) σ o).2.2)))) :: (px ++ Wm ty g ((f_Mo_widen (xs (i + 1)) (xs (i + 2)) (τ)).2) []))) H → va_D (lA s) (Wc ty h ((g_La_widen (xs (i + 1)) (xs (i + 2)) σ o).2.1) ((ho, .inl (ty 1, 1, .inr (.inl ((g_La_widen (xs (i + 1)) (xs (i + 2)) σ o).2.2)))) :: (px ++ Wm ty g ((f_Mo_widen (xs (i + 1)) (xs (i + 2)) (τ)).2) []))) → va_S (lA s) s.heap H locs → W p l e room_1 s m args below meth c H locs (cells + 1) (slots + 6) Q (F0 m 545 ls [])) : W p l e room_1 s m args below meth c H locs cells slots Q (F0 m 480 ls []) := by
  obtain ⟨hx, hb, hml, hown, hg, hXs, hbl, hK, hN, hNC, hXK, hM⟩ := C
  have hcl0 : cells + 1 + 0 ≤ room_1.cells := hcl
  have hsl0 : slots + 6 + 0 ≤ room_1.slots := hsl
  refine lv_aload_n hx hb d_La_law_480 rfl (lv_at hl 1 rfl) ?_
  refine lv_aload_n hx hb d_La_law_481 rfl (lv_at hl 0 rfl) ?_
  refine lv_iload hx hb d_La_law_482 (lv_at hl 4 rfl) ?_
  refine lv_iconst (v := nI 1) hx hb d_La_law_484 (by decide) ?_
  refine lv_iadd hx hb d_La_law_485 ?_
  refine la_ld (k := 1) hx hb hXs hbl hS (by omega) (by omega) d_La_law_486 ?_
  refine lv_aload_n hx hb d_La_law_487 rfl (lv_at hl 0 rfl) ?_
  refine lv_iload hx hb d_La_law_488 (lv_at hl 4 rfl) ?_
  refine lv_iconst (v := nI 2) hx hb d_La_law_490 (by decide) ?_
  refine lv_iadd hx hb d_La_law_491 ?_
  refine la_ld (k := 2) hx hb hXs hbl hS (by omega) (by omega) d_La_law_492 ?_
  refine lv_aload_n hx hb d_La_law_493 rfl (lv_at hl 3 rfl) ?_
  refine x_callSW (As := [.ref (h 0), .int (xs (i + 1)), .int (xs (i + 2)), .ref ho]) (rest := []) (n := 4) (mc := 1) (ms := 6) ⟨hx, hb, hml, hown, hg⟩ (c_La_widen l hlt D ty h (px ++ Wm ty g τ []) sa ho o σ H.size (xs (i + 1)) (xs (i + 2)) hk1 hE) rfl rfl (Nat.le_of_ble_eq_true rfl) (Nat.le_of_ble_eq_true rfl) (pay_in hg (gw_C m_991)) List.mem_cons_self (hg _ m_991) (hg _ m_0) (hg _ m_990) (hg _ m_989) ⟨hd_La_widen.1, hd_La_widen.2.1⟩ (fun sig h9 => by have h8 := hd_La_widen.2.2; rw [h9] at h8; exact (Option.some.inj h8).symm) (zz_preL hM hN hNC hXK hS (lA_in s) hK hP hD) rfl hl.1 rfl (Nat.le_of_ble_eq_true rfl) d_La_law_494 ⟨hcl, hsl⟩ (fun q9 st9 t9 h9 => by cases h9.2.2) (fun v9 st9 t9 L9 h09 hal9 hR9 hL9 => ?_)
  obtain ⟨hF9, hP9, hv9⟩ := hR9
  cases hv9
  have hS := zz_xS hS h09 hF9 (zz_free hD hS (lA_in s)) hL9
  have hP := hP9
  have hD : va_D (lA s) (Wc ty h ((g_La_widen (xs (i + 1)) (xs (i + 2)) σ o).2.1) ((ho, .inl (ty 1, 1, .inr (.inl ((g_La_widen (xs (i + 1)) (xs (i + 2)) σ o).2.2)))) :: (px ++ Wm ty g (τ) []))) := zz_D hD rfl
  generalize t9.heap = H at hP hS ⊢
  refine W.eq (g2 := F0 m 497 ls (.int (g_La_widen (xs (i + 1)) (xs (i + 2)) σ o).1 :: [])) rfl ?_
  refine lv_istore (lv' := [(5, .int (g_La_widen (xs (i + 1)) (xs (i + 2)) σ o).1), (0, .ref b), (1, .ref (h 0)), (2, .ref (g 0)), (3, .ref ho), (4, .int (nI i))]) hx hb d_La_law_497 hl (by decide) rfl (fun ls hl => ?_)
  refine lv_aload_n hx hb d_La_law_499 rfl (lv_at hl 3 rfl) ?_
  refine lv_aload_n hx hb d_La_law_500 rfl (lv_at hl 1 rfl) ?_
  refine lv_iload hx hb d_La_law_501 (lv_at hl 5 rfl) ?_
  refine lv_iconst (v := nI 1) hx hb d_La_law_503 (by decide) ?_
  refine lv_iadd hx hb d_La_law_504 ?_
  refine la_ld (k := 1) hx hb hXs hbl hS (by omega) (by omega) d_La_law_505 ?_
  refine lv_aload_n hx hb d_La_law_506 rfl (lv_at hl 1 rfl) ?_
  refine lv_iload hx hb d_La_law_507 (lv_at hl 5 rfl) ?_
  refine lv_iconst (v := nI 2) hx hb d_La_law_509 (by decide) ?_
  refine lv_iadd hx hb d_La_law_510 ?_
  refine la_ld (k := 2) hx hb hXs hbl hS (by omega) (by omega) d_La_law_511 ?_
  have hP : va_P D classes (Wm ty g (τ) (Wc ty h ((g_La_widen (xs (i + 1)) (xs (i + 2)) σ o).2.1) ((ho, .inl (ty 1, 1, .inr (.inl ((g_La_widen (xs (i + 1)) (xs (i + 2)) σ o).2.2)))) :: px))) H := rotP (a := Wc ty h ((g_La_widen (xs (i + 1)) (xs (i + 2)) σ o).2.1) ((ho, .inl (ty 1, 1, .inr (.inl ((g_La_widen (xs (i + 1)) (xs (i + 2)) σ o).2.2)))) :: px)) (b := Wm ty g (τ) []) hP
  have hD : va_D (lA s) (Wm ty g (τ) (Wc ty h ((g_La_widen (xs (i + 1)) (xs (i + 2)) σ o).2.1) ((ho, .inl (ty 1, 1, .inr (.inl ((g_La_widen (xs (i + 1)) (xs (i + 2)) σ o).2.2)))) :: px))) := rotD (a := Wc ty h ((g_La_widen (xs (i + 1)) (xs (i + 2)) σ o).2.1) ((ho, .inl (ty 1, 1, .inr (.inl ((g_La_widen (xs (i + 1)) (xs (i + 2)) σ o).2.2)))) :: px)) (b := Wm ty g (τ) []) hD
  refine va_calli (va_runV (As := [.int (xs (i + 1)), .int (xs (i + 2))]) (rest := []) ⟨hx, hb, hml, hown, hg⟩ (c_Mo_widen l D ty g (Wc ty h ((g_La_widen (xs (i + 1)) (xs (i + 2)) σ o).2.1) ((ho, .inl (ty 1, 1, .inr (.inl ((g_La_widen (xs (i + 1)) (xs (i + 2)) σ o).2.2)))) :: px)) sa (τ) H.size (xs (i + 1)) (xs (i + 2)) hk2) ⟨callB_of 2 hg (gw_C m_1547) rfl rfl rfl (hg _ m_13) (hg _ m_1544) hd_Mo_widen ⟨Nat.le_of_ble_eq_true rfl, Nat.le_of_ble_eq_true rfl⟩, hg _ m_1545, hg _ m_1546⟩ (zz_preVW hM hS (lA_in s) hN hK hP hD 0 rfl rfl) rfl rfl hl.1 rfl (lv_room (Nat.le_of_ble_eq_true rfl)) d_La_law_512 ⟨hcl0, hsl0⟩) hS (fun q _ h9 => zz_free hD hS (lA_in s) q h9) (zz_free hD hS (lA_in s)) (fun r512 u512 t H locs ht hvm hp hP1 hz9 hk9 hS => ?_)
  rw [ht] at hP1
  obtain ⟨rfl, rfl⟩ : r512 = (f_Mo_widen (xs (i + 1)) (xs (i + 2)) (τ)).1 ∧ u512 = (f_Mo_widen (xs (i + 1)) (xs (i + 2)) (τ)).2 := by rw [← hp]; exact ⟨rfl, rfl⟩
  clear hp
  have hP : va_P D classes (Wm ty g ((f_Mo_widen (xs (i + 1)) (xs (i + 2)) (τ)).2) (Wc ty h ((g_La_widen (xs (i + 1)) (xs (i + 2)) σ o).2.1) ((ho, .inl (ty 1, 1, .inr (.inl ((g_La_widen (xs (i + 1)) (xs (i + 2)) σ o).2.2)))) :: px))) H := hP1
  have hD : va_D (lA s) (Wm ty g ((f_Mo_widen (xs (i + 1)) (xs (i + 2)) (τ)).2) (Wc ty h ((g_La_widen (xs (i + 1)) (xs (i + 2)) σ o).2.1) ((ho, .inl (ty 1, 1, .inr (.inl ((g_La_widen (xs (i + 1)) (xs (i + 2)) σ o).2.2)))) :: px))) := zz_D hD rfl
  have hP : va_P D classes (Wc ty h ((g_La_widen (xs (i + 1)) (xs (i + 2)) σ o).2.1) ((ho, .inl (ty 1, 1, .inr (.inl ((g_La_widen (xs (i + 1)) (xs (i + 2)) σ o).2.2)))) :: (px ++ Wm ty g ((f_Mo_widen (xs (i + 1)) (xs (i + 2)) (τ)).2) []))) H := rotP (a := Wm ty g ((f_Mo_widen (xs (i + 1)) (xs (i + 2)) (τ)).2) []) (b := Wc ty h ((g_La_widen (xs (i + 1)) (xs (i + 2)) σ o).2.1) ((ho, .inl (ty 1, 1, .inr (.inl ((g_La_widen (xs (i + 1)) (xs (i + 2)) σ o).2.2)))) :: px)) hP
  have hD : va_D (lA s) (Wc ty h ((g_La_widen (xs (i + 1)) (xs (i + 2)) σ o).2.1) ((ho, .inl (ty 1, 1, .inr (.inl ((g_La_widen (xs (i + 1)) (xs (i + 2)) σ o).2.2)))) :: (px ++ Wm ty g ((f_Mo_widen (xs (i + 1)) (xs (i + 2)) (τ)).2) []))) := rotD (a := Wm ty g ((f_Mo_widen (xs (i + 1)) (xs (i + 2)) (τ)).2) []) (b := Wc ty h ((g_La_widen (xs (i + 1)) (xs (i + 2)) σ o).2.1) ((ho, .inl (ty 1, 1, .inr (.inl ((g_La_widen (xs (i + 1)) (xs (i + 2)) σ o).2.2)))) :: px)) hD
  refine lv_istore (lv' := [(6, .int (f_Mo_widen (xs (i + 1)) (xs (i + 2)) (τ)).1), (5, .int (g_La_widen (xs (i + 1)) (xs (i + 2)) σ o).1), (0, .ref b), (1, .ref (h 0)), (2, .ref (g 0)), (3, .ref ho), (4, .int (nI i))]) hx hb d_La_law_515 hl (by decide) rfl (fun ls hl => ?_)
  refine lv_aload_n hx hb d_La_law_517 rfl (lv_at hl 4 rfl) ?_
  have hP : va_P D classes (Wm ty g ((f_Mo_widen (xs (i + 1)) (xs (i + 2)) (τ)).2) (Wc ty h ((g_La_widen (xs (i + 1)) (xs (i + 2)) σ o).2.1) ((ho, .inl (ty 1, 1, .inr (.inl ((g_La_widen (xs (i + 1)) (xs (i + 2)) σ o).2.2)))) :: px))) H := rotP (a := Wc ty h ((g_La_widen (xs (i + 1)) (xs (i + 2)) σ o).2.1) ((ho, .inl (ty 1, 1, .inr (.inl ((g_La_widen (xs (i + 1)) (xs (i + 2)) σ o).2.2)))) :: px)) (b := Wm ty g ((f_Mo_widen (xs (i + 1)) (xs (i + 2)) (τ)).2) []) hP
  have hD : va_D (lA s) (Wm ty g ((f_Mo_widen (xs (i + 1)) (xs (i + 2)) (τ)).2) (Wc ty h ((g_La_widen (xs (i + 1)) (xs (i + 2)) σ o).2.1) ((ho, .inl (ty 1, 1, .inr (.inl ((g_La_widen (xs (i + 1)) (xs (i + 2)) σ o).2.2)))) :: px))) := rotD (a := Wc ty h ((g_La_widen (xs (i + 1)) (xs (i + 2)) σ o).2.1) ((ho, .inl (ty 1, 1, .inr (.inl ((g_La_widen (xs (i + 1)) (xs (i + 2)) σ o).2.2)))) :: px)) (b := Wm ty g ((f_Mo_widen (xs (i + 1)) (xs (i + 2)) (τ)).2) []) hD
  refine zz_callV (va_runV (As := []) (rest := []) ⟨hx, hb, hml, hown, hg⟩ (c_Mo_thrown l D ty g (Wc ty h ((g_La_widen (xs (i + 1)) (xs (i + 2)) σ o).2.1) ((ho, .inl (ty 1, 1, .inr (.inl ((g_La_widen (xs (i + 1)) (xs (i + 2)) σ o).2.2)))) :: px)) sa ((f_Mo_widen (xs (i + 1)) (xs (i + 2)) (τ)).2) trivial) ⟨callB_of 0 hg (gw_C m_1416) rfl rfl rfl (hg _ m_13) (hg _ m_1413) hd_Mo_thrown ⟨Nat.le_of_ble_eq_true rfl, Nat.le_of_ble_eq_true rfl⟩, hg _ m_1414, hg _ m_1415⟩ (zz_preV (hM.at hS) hN hK hP 0 rfl rfl) rfl rfl hl.1 rfl (lv_room (Nat.le_of_ble_eq_true rfl)) d_La_law_518 ⟨hcl0, hsl0⟩) ?_
  have hP : va_P D classes (Wc ty h ((g_La_widen (xs (i + 1)) (xs (i + 2)) σ o).2.1) ((ho, .inl (ty 1, 1, .inr (.inl ((g_La_widen (xs (i + 1)) (xs (i + 2)) σ o).2.2)))) :: (px ++ Wm ty g ((f_Mo_widen (xs (i + 1)) (xs (i + 2)) (τ)).2) []))) H := rotP (a := Wm ty g ((f_Mo_widen (xs (i + 1)) (xs (i + 2)) (τ)).2) []) (b := Wc ty h ((g_La_widen (xs (i + 1)) (xs (i + 2)) σ o).2.1) ((ho, .inl (ty 1, 1, .inr (.inl ((g_La_widen (xs (i + 1)) (xs (i + 2)) σ o).2.2)))) :: px)) hP
  have hD : va_D (lA s) (Wc ty h ((g_La_widen (xs (i + 1)) (xs (i + 2)) σ o).2.1) ((ho, .inl (ty 1, 1, .inr (.inl ((g_La_widen (xs (i + 1)) (xs (i + 2)) σ o).2.2)))) :: (px ++ Wm ty g ((f_Mo_widen (xs (i + 1)) (xs (i + 2)) (τ)).2) []))) := rotD (a := Wm ty g ((f_Mo_widen (xs (i + 1)) (xs (i + 2)) (τ)).2) []) (b := Wc ty h ((g_La_widen (xs (i + 1)) (xs (i + 2)) σ o).2.1) ((ho, .inl (ty 1, 1, .inr (.inl ((g_La_widen (xs (i + 1)) (xs (i + 2)) σ o).2.2)))) :: px)) hD
  refine lv_iload hx hb d_La_law_521 (lv_at hl 1 rfl) ?_
  refine lv_icmp_eq (tgt := 528) hx hb d_La_law_523 (by decide) (fun _ => ?_) (fun hc => absurd hA1 hc)
  refine lv_iload hx hb d_La_law_528 (lv_at hl 1 rfl) ?_
  refine lv_if_ne (tgt := 545) hx hb d_La_law_530 (by decide) (fun _ => ?_) (fun hc => ?_)
  · exact K _ _ _ (lv_sub hl [2, 3, 4, 5, 6] rfl) hP hD hS
  refine lv_aload_n hx hb d_La_law_533 rfl (lv_at hl 5 rfl) ?_
  refine lv_iconst (v := 0) hx hb d_La_law_534 (by decide) ?_
  refine va_lald hx hb hK hP 36 1 rfl rfl (vp_in_iff.mpr (by decide)) d_La_law_535 ?_
  refine lv_iload hx hb d_La_law_536 (lv_at hl 0 rfl) ?_
  refine lv_i2l hx hb d_La_law_538 rfl ?_
  refine W.lcmp hx hb d_La_law_539 ?_
  refine lv_if_eq (tgt := 545) hx hb d_La_law_540 (by decide) (fun _ => ?_) (fun hc2 => absurd ((lg_cmp_eq _ _).mpr (hA2 hc)) hc2)
  exact K _ _ _ (lv_sub hl [2, 3, 4, 5, 6] rfl) hP hD hS

set_option maxHeartbeats 4000000 in
set_option maxRecDepth 100000 in
theorem la_8 {p : Program} {l : Launch} {e : Env} {s : State} {m : MethodId} {args : Array Value} {below : List Frame} {meth : Method} {c : Code} {H : Heap} {locs : List Loc} {cells slots : Nat} {Q : State → Prop} {b L i ho : Nat} {xs : Nat → Int32} {D : va_G} {ty sa h g : Nat → Nat} {px : va_W} {σ τ : St} {o : Nat → Int64} {ls : Array Slot} (hlt : l.stackTraces = false) (C : lwC p s m args c b L xs D ty sa) (hi : i + 7 ≤ L) (hL : L < 2 ^ 31) (hcl : cells + 1 ≤ room_1.cells) (hsl : slots + 6 ≤ room_1.slots) (hl : lv_has ls 7 [(0, .ref b), (1, .ref (h 0)), (2, .ref (g 0)), (3, .ref ho), (4, .int (nI i))]) (hP : va_P D classes (Wc ty h σ ((ho, .inl (ty 1, 1, .inr (.inl o))) :: (px ++ Wm ty g (τ) []))) H) (hD : va_D (lA s) (Wc ty h σ ((ho, .inl (ty 1, 1, .inr (.inl o))) :: (px ++ Wm ty g (τ) [])))) (hS : va_S (lA s) s.heap H locs) (hk1 : k_CL_meaning (xs (i + 1)) (xs (i + 2)) σ) (hE : ∀ E, (f_CL_meaning (xs (i + 1)) (xs (i + 2)) σ).1 = .inr E → E = 1 ∨ E = 2 ∨ E = 3 ∨ E = 4) (hk2 : k_Mo_meaning (xs (i + 1)) (xs (i + 2)) τ) (hA1 : (f_Mo_thrown ((f_Mo_meaning (xs (i + 1)) (xs (i + 2)) (τ)).2)) = (g_La_meaning (xs (i + 1)) (xs (i + 2)) σ o).1) (hA2 : (g_La_meaning (xs (i + 1)) (xs (i + 2)) σ o).1 = 0 → (g_La_meaning (xs (i + 1)) (xs (i + 2)) σ o).2.2 0 = (f_Mo_meaning (xs (i + 1)) (xs (i + 2)) τ).1.toInt64)
    (K : ∀ (H : Heap) (locs : List Loc) (ls : Array Slot), lv_has ls 7 [(0, .ref b), (1, .ref (h 0)), (2, .ref (g 0)), (3, .ref ho), (4, .int (nI i))] → va_P D classes (Wc ty h ((g_La_meaning (xs (i + 1)) (xs (i + 2)) σ o).2.1) ((ho, .inl (ty 1, 1, .inr (.inl ((g_La_meaning (xs (i + 1)) (xs (i + 2)) σ o).2.2)))) :: (px ++ Wm ty g ((f_Mo_meaning (xs (i + 1)) (xs (i + 2)) (τ)).2) []))) H → va_D (lA s) (Wc ty h ((g_La_meaning (xs (i + 1)) (xs (i + 2)) σ o).2.1) ((ho, .inl (ty 1, 1, .inr (.inl ((g_La_meaning (xs (i + 1)) (xs (i + 2)) σ o).2.2)))) :: (px ++ Wm ty g ((f_Mo_meaning (xs (i + 1)) (xs (i + 2)) (τ)).2) []))) → va_S (lA s) s.heap H locs → W p l e room_1 s m args below meth c H locs (cells + 1) (slots + 6) Q (F0 m 613 ls [])) : W p l e room_1 s m args below meth c H locs cells slots Q (F0 m 548 ls []) := by
  obtain ⟨hx, hb, hml, hown, hg, hXs, hbl, hK, hN, hNC, hXK, hM⟩ := C
  have hcl0 : cells + 1 + 0 ≤ room_1.cells := hcl
  have hsl0 : slots + 6 + 0 ≤ room_1.slots := hsl
  refine lv_aload_n hx hb d_La_law_548 rfl (lv_at hl 1 rfl) ?_
  refine lv_aload_n hx hb d_La_law_549 rfl (lv_at hl 0 rfl) ?_
  refine lv_iload hx hb d_La_law_550 (lv_at hl 4 rfl) ?_
  refine lv_iconst (v := nI 1) hx hb d_La_law_552 (by decide) ?_
  refine lv_iadd hx hb d_La_law_553 ?_
  refine la_ld (k := 1) hx hb hXs hbl hS (by omega) (by omega) d_La_law_554 ?_
  refine lv_aload_n hx hb d_La_law_555 rfl (lv_at hl 0 rfl) ?_
  refine lv_iload hx hb d_La_law_556 (lv_at hl 4 rfl) ?_
  refine lv_iconst (v := nI 2) hx hb d_La_law_558 (by decide) ?_
  refine lv_iadd hx hb d_La_law_559 ?_
  refine la_ld (k := 2) hx hb hXs hbl hS (by omega) (by omega) d_La_law_560 ?_
  refine lv_aload_n hx hb d_La_law_561 rfl (lv_at hl 3 rfl) ?_
  refine x_callSW (As := [.ref (h 0), .int (xs (i + 1)), .int (xs (i + 2)), .ref ho]) (rest := []) (n := 4) (mc := 1) (ms := 6) ⟨hx, hb, hml, hown, hg⟩ (c_La_meaning l hlt D ty h (px ++ Wm ty g τ []) sa ho o σ H.size (xs (i + 1)) (xs (i + 2)) hk1 hE) rfl rfl (Nat.le_of_ble_eq_true rfl) (Nat.le_of_ble_eq_true rfl) (pay_in hg (gw_C m_998)) List.mem_cons_self (hg _ m_998) (hg _ m_0) (hg _ m_997) (hg _ m_996) ⟨hd_La_meaning.1, hd_La_meaning.2.1⟩ (fun sig h9 => by have h8 := hd_La_meaning.2.2; rw [h9] at h8; exact (Option.some.inj h8).symm) (zz_preL hM hN hNC hXK hS (lA_in s) hK hP hD) rfl hl.1 rfl (Nat.le_of_ble_eq_true rfl) d_La_law_562 ⟨hcl, hsl⟩ (fun q9 st9 t9 h9 => by cases h9.2.2) (fun v9 st9 t9 L9 h09 hal9 hR9 hL9 => ?_)
  obtain ⟨hF9, hP9, hv9⟩ := hR9
  cases hv9
  have hS := zz_xS hS h09 hF9 (zz_free hD hS (lA_in s)) hL9
  have hP := hP9
  have hD : va_D (lA s) (Wc ty h ((g_La_meaning (xs (i + 1)) (xs (i + 2)) σ o).2.1) ((ho, .inl (ty 1, 1, .inr (.inl ((g_La_meaning (xs (i + 1)) (xs (i + 2)) σ o).2.2)))) :: (px ++ Wm ty g (τ) []))) := zz_D hD rfl
  generalize t9.heap = H at hP hS ⊢
  refine W.eq (g2 := F0 m 565 ls (.int (g_La_meaning (xs (i + 1)) (xs (i + 2)) σ o).1 :: [])) rfl ?_
  refine lv_istore (lv' := [(5, .int (g_La_meaning (xs (i + 1)) (xs (i + 2)) σ o).1), (0, .ref b), (1, .ref (h 0)), (2, .ref (g 0)), (3, .ref ho), (4, .int (nI i))]) hx hb d_La_law_565 hl (by decide) rfl (fun ls hl => ?_)
  refine lv_aload_n hx hb d_La_law_567 rfl (lv_at hl 3 rfl) ?_
  refine lv_aload_n hx hb d_La_law_568 rfl (lv_at hl 1 rfl) ?_
  refine lv_iload hx hb d_La_law_569 (lv_at hl 5 rfl) ?_
  refine lv_iconst (v := nI 1) hx hb d_La_law_571 (by decide) ?_
  refine lv_iadd hx hb d_La_law_572 ?_
  refine la_ld (k := 1) hx hb hXs hbl hS (by omega) (by omega) d_La_law_573 ?_
  refine lv_aload_n hx hb d_La_law_574 rfl (lv_at hl 1 rfl) ?_
  refine lv_iload hx hb d_La_law_575 (lv_at hl 5 rfl) ?_
  refine lv_iconst (v := nI 2) hx hb d_La_law_577 (by decide) ?_
  refine lv_iadd hx hb d_La_law_578 ?_
  refine la_ld (k := 2) hx hb hXs hbl hS (by omega) (by omega) d_La_law_579 ?_
  have hP : va_P D classes (Wm ty g (τ) (Wc ty h ((g_La_meaning (xs (i + 1)) (xs (i + 2)) σ o).2.1) ((ho, .inl (ty 1, 1, .inr (.inl ((g_La_meaning (xs (i + 1)) (xs (i + 2)) σ o).2.2)))) :: px))) H := rotP (a := Wc ty h ((g_La_meaning (xs (i + 1)) (xs (i + 2)) σ o).2.1) ((ho, .inl (ty 1, 1, .inr (.inl ((g_La_meaning (xs (i + 1)) (xs (i + 2)) σ o).2.2)))) :: px)) (b := Wm ty g (τ) []) hP
  have hD : va_D (lA s) (Wm ty g (τ) (Wc ty h ((g_La_meaning (xs (i + 1)) (xs (i + 2)) σ o).2.1) ((ho, .inl (ty 1, 1, .inr (.inl ((g_La_meaning (xs (i + 1)) (xs (i + 2)) σ o).2.2)))) :: px))) := rotD (a := Wc ty h ((g_La_meaning (xs (i + 1)) (xs (i + 2)) σ o).2.1) ((ho, .inl (ty 1, 1, .inr (.inl ((g_La_meaning (xs (i + 1)) (xs (i + 2)) σ o).2.2)))) :: px)) (b := Wm ty g (τ) []) hD
  refine va_calli (va_runV (As := [.int (xs (i + 1)), .int (xs (i + 2))]) (rest := []) ⟨hx, hb, hml, hown, hg⟩ (c_Mo_meaning l D ty g (Wc ty h ((g_La_meaning (xs (i + 1)) (xs (i + 2)) σ o).2.1) ((ho, .inl (ty 1, 1, .inr (.inl ((g_La_meaning (xs (i + 1)) (xs (i + 2)) σ o).2.2)))) :: px)) sa (τ) H.size (xs (i + 1)) (xs (i + 2)) hk2) ⟨callB_of 2 hg (gw_C m_1555) rfl rfl rfl (hg _ m_13) (hg _ m_1552) hd_Mo_meaning ⟨Nat.le_of_ble_eq_true rfl, Nat.le_of_ble_eq_true rfl⟩, hg _ m_1553, hg _ m_1554⟩ (zz_preVW hM hS (lA_in s) hN hK hP hD 0 rfl rfl) rfl rfl hl.1 rfl (lv_room (Nat.le_of_ble_eq_true rfl)) d_La_law_580 ⟨hcl0, hsl0⟩) hS (fun q _ h9 => zz_free hD hS (lA_in s) q h9) (zz_free hD hS (lA_in s)) (fun r580 u580 t H locs ht hvm hp hP1 hz9 hk9 hS => ?_)
  rw [ht] at hP1
  obtain ⟨rfl, rfl⟩ : r580 = (f_Mo_meaning (xs (i + 1)) (xs (i + 2)) (τ)).1 ∧ u580 = (f_Mo_meaning (xs (i + 1)) (xs (i + 2)) (τ)).2 := by rw [← hp]; exact ⟨rfl, rfl⟩
  clear hp
  have hP : va_P D classes (Wm ty g ((f_Mo_meaning (xs (i + 1)) (xs (i + 2)) (τ)).2) (Wc ty h ((g_La_meaning (xs (i + 1)) (xs (i + 2)) σ o).2.1) ((ho, .inl (ty 1, 1, .inr (.inl ((g_La_meaning (xs (i + 1)) (xs (i + 2)) σ o).2.2)))) :: px))) H := hP1
  have hD : va_D (lA s) (Wm ty g ((f_Mo_meaning (xs (i + 1)) (xs (i + 2)) (τ)).2) (Wc ty h ((g_La_meaning (xs (i + 1)) (xs (i + 2)) σ o).2.1) ((ho, .inl (ty 1, 1, .inr (.inl ((g_La_meaning (xs (i + 1)) (xs (i + 2)) σ o).2.2)))) :: px))) := zz_D hD rfl
  have hP : va_P D classes (Wc ty h ((g_La_meaning (xs (i + 1)) (xs (i + 2)) σ o).2.1) ((ho, .inl (ty 1, 1, .inr (.inl ((g_La_meaning (xs (i + 1)) (xs (i + 2)) σ o).2.2)))) :: (px ++ Wm ty g ((f_Mo_meaning (xs (i + 1)) (xs (i + 2)) (τ)).2) []))) H := rotP (a := Wm ty g ((f_Mo_meaning (xs (i + 1)) (xs (i + 2)) (τ)).2) []) (b := Wc ty h ((g_La_meaning (xs (i + 1)) (xs (i + 2)) σ o).2.1) ((ho, .inl (ty 1, 1, .inr (.inl ((g_La_meaning (xs (i + 1)) (xs (i + 2)) σ o).2.2)))) :: px)) hP
  have hD : va_D (lA s) (Wc ty h ((g_La_meaning (xs (i + 1)) (xs (i + 2)) σ o).2.1) ((ho, .inl (ty 1, 1, .inr (.inl ((g_La_meaning (xs (i + 1)) (xs (i + 2)) σ o).2.2)))) :: (px ++ Wm ty g ((f_Mo_meaning (xs (i + 1)) (xs (i + 2)) (τ)).2) []))) := rotD (a := Wm ty g ((f_Mo_meaning (xs (i + 1)) (xs (i + 2)) (τ)).2) []) (b := Wc ty h ((g_La_meaning (xs (i + 1)) (xs (i + 2)) σ o).2.1) ((ho, .inl (ty 1, 1, .inr (.inl ((g_La_meaning (xs (i + 1)) (xs (i + 2)) σ o).2.2)))) :: px)) hD
  refine lv_istore (lv' := [(6, .int (f_Mo_meaning (xs (i + 1)) (xs (i + 2)) (τ)).1), (5, .int (g_La_meaning (xs (i + 1)) (xs (i + 2)) σ o).1), (0, .ref b), (1, .ref (h 0)), (2, .ref (g 0)), (3, .ref ho), (4, .int (nI i))]) hx hb d_La_law_583 hl (by decide) rfl (fun ls hl => ?_)
  refine lv_aload_n hx hb d_La_law_585 rfl (lv_at hl 4 rfl) ?_
  have hP : va_P D classes (Wm ty g ((f_Mo_meaning (xs (i + 1)) (xs (i + 2)) (τ)).2) (Wc ty h ((g_La_meaning (xs (i + 1)) (xs (i + 2)) σ o).2.1) ((ho, .inl (ty 1, 1, .inr (.inl ((g_La_meaning (xs (i + 1)) (xs (i + 2)) σ o).2.2)))) :: px))) H := rotP (a := Wc ty h ((g_La_meaning (xs (i + 1)) (xs (i + 2)) σ o).2.1) ((ho, .inl (ty 1, 1, .inr (.inl ((g_La_meaning (xs (i + 1)) (xs (i + 2)) σ o).2.2)))) :: px)) (b := Wm ty g ((f_Mo_meaning (xs (i + 1)) (xs (i + 2)) (τ)).2) []) hP
  have hD : va_D (lA s) (Wm ty g ((f_Mo_meaning (xs (i + 1)) (xs (i + 2)) (τ)).2) (Wc ty h ((g_La_meaning (xs (i + 1)) (xs (i + 2)) σ o).2.1) ((ho, .inl (ty 1, 1, .inr (.inl ((g_La_meaning (xs (i + 1)) (xs (i + 2)) σ o).2.2)))) :: px))) := rotD (a := Wc ty h ((g_La_meaning (xs (i + 1)) (xs (i + 2)) σ o).2.1) ((ho, .inl (ty 1, 1, .inr (.inl ((g_La_meaning (xs (i + 1)) (xs (i + 2)) σ o).2.2)))) :: px)) (b := Wm ty g ((f_Mo_meaning (xs (i + 1)) (xs (i + 2)) (τ)).2) []) hD
  refine zz_callV (va_runV (As := []) (rest := []) ⟨hx, hb, hml, hown, hg⟩ (c_Mo_thrown l D ty g (Wc ty h ((g_La_meaning (xs (i + 1)) (xs (i + 2)) σ o).2.1) ((ho, .inl (ty 1, 1, .inr (.inl ((g_La_meaning (xs (i + 1)) (xs (i + 2)) σ o).2.2)))) :: px)) sa ((f_Mo_meaning (xs (i + 1)) (xs (i + 2)) (τ)).2) trivial) ⟨callB_of 0 hg (gw_C m_1416) rfl rfl rfl (hg _ m_13) (hg _ m_1413) hd_Mo_thrown ⟨Nat.le_of_ble_eq_true rfl, Nat.le_of_ble_eq_true rfl⟩, hg _ m_1414, hg _ m_1415⟩ (zz_preV (hM.at hS) hN hK hP 0 rfl rfl) rfl rfl hl.1 rfl (lv_room (Nat.le_of_ble_eq_true rfl)) d_La_law_586 ⟨hcl0, hsl0⟩) ?_
  have hP : va_P D classes (Wc ty h ((g_La_meaning (xs (i + 1)) (xs (i + 2)) σ o).2.1) ((ho, .inl (ty 1, 1, .inr (.inl ((g_La_meaning (xs (i + 1)) (xs (i + 2)) σ o).2.2)))) :: (px ++ Wm ty g ((f_Mo_meaning (xs (i + 1)) (xs (i + 2)) (τ)).2) []))) H := rotP (a := Wm ty g ((f_Mo_meaning (xs (i + 1)) (xs (i + 2)) (τ)).2) []) (b := Wc ty h ((g_La_meaning (xs (i + 1)) (xs (i + 2)) σ o).2.1) ((ho, .inl (ty 1, 1, .inr (.inl ((g_La_meaning (xs (i + 1)) (xs (i + 2)) σ o).2.2)))) :: px)) hP
  have hD : va_D (lA s) (Wc ty h ((g_La_meaning (xs (i + 1)) (xs (i + 2)) σ o).2.1) ((ho, .inl (ty 1, 1, .inr (.inl ((g_La_meaning (xs (i + 1)) (xs (i + 2)) σ o).2.2)))) :: (px ++ Wm ty g ((f_Mo_meaning (xs (i + 1)) (xs (i + 2)) (τ)).2) []))) := rotD (a := Wm ty g ((f_Mo_meaning (xs (i + 1)) (xs (i + 2)) (τ)).2) []) (b := Wc ty h ((g_La_meaning (xs (i + 1)) (xs (i + 2)) σ o).2.1) ((ho, .inl (ty 1, 1, .inr (.inl ((g_La_meaning (xs (i + 1)) (xs (i + 2)) σ o).2.2)))) :: px)) hD
  refine lv_iload hx hb d_La_law_589 (lv_at hl 1 rfl) ?_
  refine lv_icmp_eq (tgt := 596) hx hb d_La_law_591 (by decide) (fun _ => ?_) (fun hc => absurd hA1 hc)
  refine lv_iload hx hb d_La_law_596 (lv_at hl 1 rfl) ?_
  refine lv_if_ne (tgt := 613) hx hb d_La_law_598 (by decide) (fun _ => ?_) (fun hc => ?_)
  · exact K _ _ _ (lv_sub hl [2, 3, 4, 5, 6] rfl) hP hD hS
  refine lv_aload_n hx hb d_La_law_601 rfl (lv_at hl 5 rfl) ?_
  refine lv_iconst (v := 0) hx hb d_La_law_602 (by decide) ?_
  refine va_lald hx hb hK hP 36 1 rfl rfl (vp_in_iff.mpr (by decide)) d_La_law_603 ?_
  refine lv_iload hx hb d_La_law_604 (lv_at hl 0 rfl) ?_
  refine lv_i2l hx hb d_La_law_606 rfl ?_
  refine W.lcmp hx hb d_La_law_607 ?_
  refine lv_if_eq (tgt := 613) hx hb d_La_law_608 (by decide) (fun _ => ?_) (fun hc2 => absurd ((lg_cmp_eq _ _).mpr (hA2 hc)) hc2)
  exact K _ _ _ (lv_sub hl [2, 3, 4, 5, 6] rfl) hP hD hS

set_option maxHeartbeats 4000000 in
set_option maxRecDepth 100000 in
theorem la_9 {p : Program} {l : Launch} {e : Env} {s : State} {m : MethodId} {args : Array Value} {below : List Frame} {meth : Method} {c : Code} {H : Heap} {locs : List Loc} {cells slots : Nat} {Q : State → Prop} {b L i ho : Nat} {xs : Nat → Int32} {D : va_G} {ty sa h g : Nat → Nat} {px : va_W} {σ τ : St} {o : Nat → Int64} {ls : Array Slot} (hlt : l.stackTraces = false) (C : lwC p s m args c b L xs D ty sa) (hi : i + 7 ≤ L) (hL : L < 2 ^ 31) (hcl : cells + 1 ≤ room_1.cells) (hsl : slots + 6 ≤ room_1.slots) (hl : lv_has ls 7 [(0, .ref b), (1, .ref (h 0)), (2, .ref (g 0)), (3, .ref ho), (4, .int (nI i))]) (hP : va_P D classes (Wc ty h σ ((ho, .inl (ty 1, 1, .inr (.inl o))) :: (px ++ Wm ty g (τ) []))) H) (hD : va_D (lA s) (Wc ty h σ ((ho, .inl (ty 1, 1, .inr (.inl o))) :: (px ++ Wm ty g (τ) [])))) (hS : va_S (lA s) s.heap H locs) (hk1 : k_CL_same (xs (i + 1)) σ) (hE : ∀ E, (f_CL_same (xs (i + 1)) σ).1 = .inr E → E = 1 ∨ E = 3 ∨ E = 4) (hk2 : k_Mo_same (xs (i + 1)) τ) (hA1 : (f_Mo_thrown ((f_Mo_same (xs (i + 1)) (τ)).2)) = (g_La_same (xs (i + 1)) σ o).1) (hA2 : (g_La_same (xs (i + 1)) σ o).1 = 0 → (g_La_same (xs (i + 1)) σ o).2.2 0 = (f_Mo_same (xs (i + 1)) τ).1.toInt64)
    (K : ∀ (H : Heap) (locs : List Loc) (ls : Array Slot), lv_has ls 7 [(0, .ref b), (1, .ref (h 0)), (2, .ref (g 0)), (3, .ref ho), (4, .int (nI i))] → va_P D classes (Wc ty h ((g_La_same (xs (i + 1)) σ o).2.1) ((ho, .inl (ty 1, 1, .inr (.inl ((g_La_same (xs (i + 1)) σ o).2.2)))) :: (px ++ Wm ty g ((f_Mo_same (xs (i + 1)) (τ)).2) []))) H → va_D (lA s) (Wc ty h ((g_La_same (xs (i + 1)) σ o).2.1) ((ho, .inl (ty 1, 1, .inr (.inl ((g_La_same (xs (i + 1)) σ o).2.2)))) :: (px ++ Wm ty g ((f_Mo_same (xs (i + 1)) (τ)).2) []))) → va_S (lA s) s.heap H locs → W p l e room_1 s m args below meth c H locs (cells + 1) (slots + 6) Q (F0 m 669 ls [])) : W p l e room_1 s m args below meth c H locs cells slots Q (F0 m 616 ls []) := by
  obtain ⟨hx, hb, hml, hown, hg, hXs, hbl, hK, hN, hNC, hXK, hM⟩ := C
  have hcl0 : cells + 1 + 0 ≤ room_1.cells := hcl
  have hsl0 : slots + 6 + 0 ≤ room_1.slots := hsl
  refine lv_aload_n hx hb d_La_law_616 rfl (lv_at hl 1 rfl) ?_
  refine lv_aload_n hx hb d_La_law_617 rfl (lv_at hl 0 rfl) ?_
  refine lv_iload hx hb d_La_law_618 (lv_at hl 4 rfl) ?_
  refine lv_iconst (v := nI 1) hx hb d_La_law_620 (by decide) ?_
  refine lv_iadd hx hb d_La_law_621 ?_
  refine la_ld (k := 1) hx hb hXs hbl hS (by omega) (by omega) d_La_law_622 ?_
  refine lv_aload_n hx hb d_La_law_623 rfl (lv_at hl 3 rfl) ?_
  refine x_callSW (As := [.ref (h 0), .int (xs (i + 1)), .ref ho]) (rest := []) (n := 3) (mc := 1) (ms := 6) ⟨hx, hb, hml, hown, hg⟩ (c_La_same l hlt D ty h (px ++ Wm ty g τ []) sa ho o σ H.size (xs (i + 1)) hk1 hE) rfl rfl (Nat.le_of_ble_eq_true rfl) (Nat.le_of_ble_eq_true rfl) (pay_in hg (gw_C m_1030)) List.mem_cons_self (hg _ m_1030) (hg _ m_0) (hg _ m_1029) (hg _ m_1028) ⟨hd_La_same.1, hd_La_same.2.1⟩ (fun sig h9 => by have h8 := hd_La_same.2.2; rw [h9] at h8; exact (Option.some.inj h8).symm) (zz_preL hM hN hNC hXK hS (lA_in s) hK hP hD) rfl hl.1 rfl (Nat.le_of_ble_eq_true rfl) d_La_law_624 ⟨hcl, hsl⟩ (fun q9 st9 t9 h9 => by cases h9.2.2) (fun v9 st9 t9 L9 h09 hal9 hR9 hL9 => ?_)
  obtain ⟨hF9, hP9, hv9⟩ := hR9
  cases hv9
  have hS := zz_xS hS h09 hF9 (zz_free hD hS (lA_in s)) hL9
  have hP := hP9
  have hD : va_D (lA s) (Wc ty h ((g_La_same (xs (i + 1)) σ o).2.1) ((ho, .inl (ty 1, 1, .inr (.inl ((g_La_same (xs (i + 1)) σ o).2.2)))) :: (px ++ Wm ty g (τ) []))) := zz_D hD rfl
  generalize t9.heap = H at hP hS ⊢
  refine W.eq (g2 := F0 m 627 ls (.int (g_La_same (xs (i + 1)) σ o).1 :: [])) rfl ?_
  refine lv_istore (lv' := [(5, .int (g_La_same (xs (i + 1)) σ o).1), (0, .ref b), (1, .ref (h 0)), (2, .ref (g 0)), (3, .ref ho), (4, .int (nI i))]) hx hb d_La_law_627 hl (by decide) rfl (fun ls hl => ?_)
  refine lv_aload_n hx hb d_La_law_629 rfl (lv_at hl 3 rfl) ?_
  refine lv_aload_n hx hb d_La_law_630 rfl (lv_at hl 1 rfl) ?_
  refine lv_iload hx hb d_La_law_631 (lv_at hl 5 rfl) ?_
  refine lv_iconst (v := nI 1) hx hb d_La_law_633 (by decide) ?_
  refine lv_iadd hx hb d_La_law_634 ?_
  refine la_ld (k := 1) hx hb hXs hbl hS (by omega) (by omega) d_La_law_635 ?_
  have hP : va_P D classes (Wm ty g (τ) (Wc ty h ((g_La_same (xs (i + 1)) σ o).2.1) ((ho, .inl (ty 1, 1, .inr (.inl ((g_La_same (xs (i + 1)) σ o).2.2)))) :: px))) H := rotP (a := Wc ty h ((g_La_same (xs (i + 1)) σ o).2.1) ((ho, .inl (ty 1, 1, .inr (.inl ((g_La_same (xs (i + 1)) σ o).2.2)))) :: px)) (b := Wm ty g (τ) []) hP
  have hD : va_D (lA s) (Wm ty g (τ) (Wc ty h ((g_La_same (xs (i + 1)) σ o).2.1) ((ho, .inl (ty 1, 1, .inr (.inl ((g_La_same (xs (i + 1)) σ o).2.2)))) :: px))) := rotD (a := Wc ty h ((g_La_same (xs (i + 1)) σ o).2.1) ((ho, .inl (ty 1, 1, .inr (.inl ((g_La_same (xs (i + 1)) σ o).2.2)))) :: px)) (b := Wm ty g (τ) []) hD
  refine va_calli (va_runV (As := [.int (xs (i + 1))]) (rest := []) ⟨hx, hb, hml, hown, hg⟩ (c_Mo_same l D ty g (Wc ty h ((g_La_same (xs (i + 1)) σ o).2.1) ((ho, .inl (ty 1, 1, .inr (.inl ((g_La_same (xs (i + 1)) σ o).2.2)))) :: px)) sa (τ) H.size (xs (i + 1)) hk2) ⟨callB_of 1 hg (gw_C m_1563) rfl rfl rfl (hg _ m_13) (hg _ m_1560) hd_Mo_same ⟨Nat.le_of_ble_eq_true rfl, Nat.le_of_ble_eq_true rfl⟩, hg _ m_1561, hg _ m_1562⟩ (zz_preVW hM hS (lA_in s) hN hK hP hD 0 rfl rfl) rfl rfl hl.1 rfl (lv_room (Nat.le_of_ble_eq_true rfl)) d_La_law_636 ⟨hcl0, hsl0⟩) hS (fun q _ h9 => zz_free hD hS (lA_in s) q h9) (zz_free hD hS (lA_in s)) (fun r636 u636 t H locs ht hvm hp hP1 hz9 hk9 hS => ?_)
  rw [ht] at hP1
  obtain ⟨rfl, rfl⟩ : r636 = (f_Mo_same (xs (i + 1)) (τ)).1 ∧ u636 = (f_Mo_same (xs (i + 1)) (τ)).2 := by rw [← hp]; exact ⟨rfl, rfl⟩
  clear hp
  have hP : va_P D classes (Wm ty g ((f_Mo_same (xs (i + 1)) (τ)).2) (Wc ty h ((g_La_same (xs (i + 1)) σ o).2.1) ((ho, .inl (ty 1, 1, .inr (.inl ((g_La_same (xs (i + 1)) σ o).2.2)))) :: px))) H := hP1
  have hD : va_D (lA s) (Wm ty g ((f_Mo_same (xs (i + 1)) (τ)).2) (Wc ty h ((g_La_same (xs (i + 1)) σ o).2.1) ((ho, .inl (ty 1, 1, .inr (.inl ((g_La_same (xs (i + 1)) σ o).2.2)))) :: px))) := zz_D hD rfl
  have hP : va_P D classes (Wc ty h ((g_La_same (xs (i + 1)) σ o).2.1) ((ho, .inl (ty 1, 1, .inr (.inl ((g_La_same (xs (i + 1)) σ o).2.2)))) :: (px ++ Wm ty g ((f_Mo_same (xs (i + 1)) (τ)).2) []))) H := rotP (a := Wm ty g ((f_Mo_same (xs (i + 1)) (τ)).2) []) (b := Wc ty h ((g_La_same (xs (i + 1)) σ o).2.1) ((ho, .inl (ty 1, 1, .inr (.inl ((g_La_same (xs (i + 1)) σ o).2.2)))) :: px)) hP
  have hD : va_D (lA s) (Wc ty h ((g_La_same (xs (i + 1)) σ o).2.1) ((ho, .inl (ty 1, 1, .inr (.inl ((g_La_same (xs (i + 1)) σ o).2.2)))) :: (px ++ Wm ty g ((f_Mo_same (xs (i + 1)) (τ)).2) []))) := rotD (a := Wm ty g ((f_Mo_same (xs (i + 1)) (τ)).2) []) (b := Wc ty h ((g_La_same (xs (i + 1)) σ o).2.1) ((ho, .inl (ty 1, 1, .inr (.inl ((g_La_same (xs (i + 1)) σ o).2.2)))) :: px)) hD
  refine lv_istore (lv' := [(6, .int (f_Mo_same (xs (i + 1)) (τ)).1), (5, .int (g_La_same (xs (i + 1)) σ o).1), (0, .ref b), (1, .ref (h 0)), (2, .ref (g 0)), (3, .ref ho), (4, .int (nI i))]) hx hb d_La_law_639 hl (by decide) rfl (fun ls hl => ?_)
  refine lv_aload_n hx hb d_La_law_641 rfl (lv_at hl 4 rfl) ?_
  have hP : va_P D classes (Wm ty g ((f_Mo_same (xs (i + 1)) (τ)).2) (Wc ty h ((g_La_same (xs (i + 1)) σ o).2.1) ((ho, .inl (ty 1, 1, .inr (.inl ((g_La_same (xs (i + 1)) σ o).2.2)))) :: px))) H := rotP (a := Wc ty h ((g_La_same (xs (i + 1)) σ o).2.1) ((ho, .inl (ty 1, 1, .inr (.inl ((g_La_same (xs (i + 1)) σ o).2.2)))) :: px)) (b := Wm ty g ((f_Mo_same (xs (i + 1)) (τ)).2) []) hP
  have hD : va_D (lA s) (Wm ty g ((f_Mo_same (xs (i + 1)) (τ)).2) (Wc ty h ((g_La_same (xs (i + 1)) σ o).2.1) ((ho, .inl (ty 1, 1, .inr (.inl ((g_La_same (xs (i + 1)) σ o).2.2)))) :: px))) := rotD (a := Wc ty h ((g_La_same (xs (i + 1)) σ o).2.1) ((ho, .inl (ty 1, 1, .inr (.inl ((g_La_same (xs (i + 1)) σ o).2.2)))) :: px)) (b := Wm ty g ((f_Mo_same (xs (i + 1)) (τ)).2) []) hD
  refine zz_callV (va_runV (As := []) (rest := []) ⟨hx, hb, hml, hown, hg⟩ (c_Mo_thrown l D ty g (Wc ty h ((g_La_same (xs (i + 1)) σ o).2.1) ((ho, .inl (ty 1, 1, .inr (.inl ((g_La_same (xs (i + 1)) σ o).2.2)))) :: px)) sa ((f_Mo_same (xs (i + 1)) (τ)).2) trivial) ⟨callB_of 0 hg (gw_C m_1416) rfl rfl rfl (hg _ m_13) (hg _ m_1413) hd_Mo_thrown ⟨Nat.le_of_ble_eq_true rfl, Nat.le_of_ble_eq_true rfl⟩, hg _ m_1414, hg _ m_1415⟩ (zz_preV (hM.at hS) hN hK hP 0 rfl rfl) rfl rfl hl.1 rfl (lv_room (Nat.le_of_ble_eq_true rfl)) d_La_law_642 ⟨hcl0, hsl0⟩) ?_
  have hP : va_P D classes (Wc ty h ((g_La_same (xs (i + 1)) σ o).2.1) ((ho, .inl (ty 1, 1, .inr (.inl ((g_La_same (xs (i + 1)) σ o).2.2)))) :: (px ++ Wm ty g ((f_Mo_same (xs (i + 1)) (τ)).2) []))) H := rotP (a := Wm ty g ((f_Mo_same (xs (i + 1)) (τ)).2) []) (b := Wc ty h ((g_La_same (xs (i + 1)) σ o).2.1) ((ho, .inl (ty 1, 1, .inr (.inl ((g_La_same (xs (i + 1)) σ o).2.2)))) :: px)) hP
  have hD : va_D (lA s) (Wc ty h ((g_La_same (xs (i + 1)) σ o).2.1) ((ho, .inl (ty 1, 1, .inr (.inl ((g_La_same (xs (i + 1)) σ o).2.2)))) :: (px ++ Wm ty g ((f_Mo_same (xs (i + 1)) (τ)).2) []))) := rotD (a := Wm ty g ((f_Mo_same (xs (i + 1)) (τ)).2) []) (b := Wc ty h ((g_La_same (xs (i + 1)) σ o).2.1) ((ho, .inl (ty 1, 1, .inr (.inl ((g_La_same (xs (i + 1)) σ o).2.2)))) :: px)) hD
  refine lv_iload hx hb d_La_law_645 (lv_at hl 1 rfl) ?_
  refine lv_icmp_eq (tgt := 652) hx hb d_La_law_647 (by decide) (fun _ => ?_) (fun hc => absurd hA1 hc)
  refine lv_iload hx hb d_La_law_652 (lv_at hl 1 rfl) ?_
  refine lv_if_ne (tgt := 669) hx hb d_La_law_654 (by decide) (fun _ => ?_) (fun hc => ?_)
  · exact K _ _ _ (lv_sub hl [2, 3, 4, 5, 6] rfl) hP hD hS
  refine lv_aload_n hx hb d_La_law_657 rfl (lv_at hl 5 rfl) ?_
  refine lv_iconst (v := 0) hx hb d_La_law_658 (by decide) ?_
  refine va_lald hx hb hK hP 36 1 rfl rfl (vp_in_iff.mpr (by decide)) d_La_law_659 ?_
  refine lv_iload hx hb d_La_law_660 (lv_at hl 0 rfl) ?_
  refine lv_i2l hx hb d_La_law_662 rfl ?_
  refine W.lcmp hx hb d_La_law_663 ?_
  refine lv_if_eq (tgt := 669) hx hb d_La_law_664 (by decide) (fun _ => ?_) (fun hc2 => absurd ((lg_cmp_eq _ _).mpr (hA2 hc)) hc2)
  exact K _ _ _ (lv_sub hl [2, 3, 4, 5, 6] rfl) hP hD hS

set_option maxHeartbeats 4000000 in
set_option maxRecDepth 100000 in
theorem la_10 {p : Program} {l : Launch} {e : Env} {s : State} {m : MethodId} {args : Array Value} {below : List Frame} {meth : Method} {c : Code} {H : Heap} {locs : List Loc} {cells slots : Nat} {Q : State → Prop} {b L i ho : Nat} {xs : Nat → Int32} {D : va_G} {ty sa h g : Nat → Nat} {px : va_W} {σ τ : St} {o : Nat → Int64} {ls : Array Slot} (hlt : l.stackTraces = false) (C : lwC p s m args c b L xs D ty sa) (hi : i + 7 ≤ L) (hL : L < 2 ^ 31) (hcl : cells + 1 ≤ room_1.cells) (hsl : slots + 6 ≤ room_1.slots) (hl : lv_has ls 7 [(0, .ref b), (1, .ref (h 0)), (2, .ref (g 0)), (3, .ref ho), (4, .int (nI i))]) (hP : va_P D classes (Wc ty h σ ((ho, .inl (ty 1, 1, .inr (.inl o))) :: (px ++ Wm ty g (τ) []))) H) (hD : va_D (lA s) (Wc ty h σ ((ho, .inl (ty 1, 1, .inr (.inl o))) :: (px ++ Wm ty g (τ) [])))) (hS : va_S (lA s) s.heap H locs) (hk1 : k_CL_chain (xs (i + 1)) (xs (i + 2)) σ) (hE : ∀ E, (f_CL_chain (xs (i + 1)) (xs (i + 2)) σ).1 = .inr E → E = 1 ∨ E = 2 ∨ E = 3 ∨ E = 4) (hk2 : k_Mo_chain (xs (i + 1)) (xs (i + 2)) τ) (hA1 : (f_Mo_thrown ((f_Mo_chain (xs (i + 1)) (xs (i + 2)) (τ)).2)) = (g_La_chain (xs (i + 1)) (xs (i + 2)) σ o).1) (hA2 : (g_La_chain (xs (i + 1)) (xs (i + 2)) σ o).1 = 0 → (g_La_chain (xs (i + 1)) (xs (i + 2)) σ o).2.2 0 = (f_Mo_chain (xs (i + 1)) (xs (i + 2)) τ).1.toInt64)
    (K : ∀ (H : Heap) (locs : List Loc) (ls : Array Slot), lv_has ls 7 [(0, .ref b), (1, .ref (h 0)), (2, .ref (g 0)), (3, .ref ho), (4, .int (nI i))] → va_P D classes (Wc ty h ((g_La_chain (xs (i + 1)) (xs (i + 2)) σ o).2.1) ((ho, .inl (ty 1, 1, .inr (.inl ((g_La_chain (xs (i + 1)) (xs (i + 2)) σ o).2.2)))) :: (px ++ Wm ty g ((f_Mo_chain (xs (i + 1)) (xs (i + 2)) (τ)).2) []))) H → va_D (lA s) (Wc ty h ((g_La_chain (xs (i + 1)) (xs (i + 2)) σ o).2.1) ((ho, .inl (ty 1, 1, .inr (.inl ((g_La_chain (xs (i + 1)) (xs (i + 2)) σ o).2.2)))) :: (px ++ Wm ty g ((f_Mo_chain (xs (i + 1)) (xs (i + 2)) (τ)).2) []))) → va_S (lA s) s.heap H locs → W p l e room_1 s m args below meth c H locs (cells + 1) (slots + 6) Q (F0 m 737 ls [])) : W p l e room_1 s m args below meth c H locs cells slots Q (F0 m 672 ls []) := by
  obtain ⟨hx, hb, hml, hown, hg, hXs, hbl, hK, hN, hNC, hXK, hM⟩ := C
  have hcl0 : cells + 1 + 0 ≤ room_1.cells := hcl
  have hsl0 : slots + 6 + 0 ≤ room_1.slots := hsl
  refine lv_aload_n hx hb d_La_law_672 rfl (lv_at hl 1 rfl) ?_
  refine lv_aload_n hx hb d_La_law_673 rfl (lv_at hl 0 rfl) ?_
  refine lv_iload hx hb d_La_law_674 (lv_at hl 4 rfl) ?_
  refine lv_iconst (v := nI 1) hx hb d_La_law_676 (by decide) ?_
  refine lv_iadd hx hb d_La_law_677 ?_
  refine la_ld (k := 1) hx hb hXs hbl hS (by omega) (by omega) d_La_law_678 ?_
  refine lv_aload_n hx hb d_La_law_679 rfl (lv_at hl 0 rfl) ?_
  refine lv_iload hx hb d_La_law_680 (lv_at hl 4 rfl) ?_
  refine lv_iconst (v := nI 2) hx hb d_La_law_682 (by decide) ?_
  refine lv_iadd hx hb d_La_law_683 ?_
  refine la_ld (k := 2) hx hb hXs hbl hS (by omega) (by omega) d_La_law_684 ?_
  refine lv_aload_n hx hb d_La_law_685 rfl (lv_at hl 3 rfl) ?_
  refine x_callSW (As := [.ref (h 0), .int (xs (i + 1)), .int (xs (i + 2)), .ref ho]) (rest := []) (n := 4) (mc := 1) (ms := 6) ⟨hx, hb, hml, hown, hg⟩ (c_La_chain l hlt D ty h (px ++ Wm ty g τ []) sa ho o σ H.size (xs (i + 1)) (xs (i + 2)) hk1 hE) rfl rfl (Nat.le_of_ble_eq_true rfl) (Nat.le_of_ble_eq_true rfl) (pay_in hg (gw_C m_1041)) List.mem_cons_self (hg _ m_1041) (hg _ m_0) (hg _ m_1040) (hg _ m_1039) ⟨hd_La_chain.1, hd_La_chain.2.1⟩ (fun sig h9 => by have h8 := hd_La_chain.2.2; rw [h9] at h8; exact (Option.some.inj h8).symm) (zz_preL hM hN hNC hXK hS (lA_in s) hK hP hD) rfl hl.1 rfl (Nat.le_of_ble_eq_true rfl) d_La_law_686 ⟨hcl, hsl⟩ (fun q9 st9 t9 h9 => by cases h9.2.2) (fun v9 st9 t9 L9 h09 hal9 hR9 hL9 => ?_)
  obtain ⟨hF9, hP9, hv9⟩ := hR9
  cases hv9
  have hS := zz_xS hS h09 hF9 (zz_free hD hS (lA_in s)) hL9
  have hP := hP9
  have hD : va_D (lA s) (Wc ty h ((g_La_chain (xs (i + 1)) (xs (i + 2)) σ o).2.1) ((ho, .inl (ty 1, 1, .inr (.inl ((g_La_chain (xs (i + 1)) (xs (i + 2)) σ o).2.2)))) :: (px ++ Wm ty g (τ) []))) := zz_D hD rfl
  generalize t9.heap = H at hP hS ⊢
  refine W.eq (g2 := F0 m 689 ls (.int (g_La_chain (xs (i + 1)) (xs (i + 2)) σ o).1 :: [])) rfl ?_
  refine lv_istore (lv' := [(5, .int (g_La_chain (xs (i + 1)) (xs (i + 2)) σ o).1), (0, .ref b), (1, .ref (h 0)), (2, .ref (g 0)), (3, .ref ho), (4, .int (nI i))]) hx hb d_La_law_689 hl (by decide) rfl (fun ls hl => ?_)
  refine lv_aload_n hx hb d_La_law_691 rfl (lv_at hl 3 rfl) ?_
  refine lv_aload_n hx hb d_La_law_692 rfl (lv_at hl 1 rfl) ?_
  refine lv_iload hx hb d_La_law_693 (lv_at hl 5 rfl) ?_
  refine lv_iconst (v := nI 1) hx hb d_La_law_695 (by decide) ?_
  refine lv_iadd hx hb d_La_law_696 ?_
  refine la_ld (k := 1) hx hb hXs hbl hS (by omega) (by omega) d_La_law_697 ?_
  refine lv_aload_n hx hb d_La_law_698 rfl (lv_at hl 1 rfl) ?_
  refine lv_iload hx hb d_La_law_699 (lv_at hl 5 rfl) ?_
  refine lv_iconst (v := nI 2) hx hb d_La_law_701 (by decide) ?_
  refine lv_iadd hx hb d_La_law_702 ?_
  refine la_ld (k := 2) hx hb hXs hbl hS (by omega) (by omega) d_La_law_703 ?_
  have hP : va_P D classes (Wm ty g (τ) (Wc ty h ((g_La_chain (xs (i + 1)) (xs (i + 2)) σ o).2.1) ((ho, .inl (ty 1, 1, .inr (.inl ((g_La_chain (xs (i + 1)) (xs (i + 2)) σ o).2.2)))) :: px))) H := rotP (a := Wc ty h ((g_La_chain (xs (i + 1)) (xs (i + 2)) σ o).2.1) ((ho, .inl (ty 1, 1, .inr (.inl ((g_La_chain (xs (i + 1)) (xs (i + 2)) σ o).2.2)))) :: px)) (b := Wm ty g (τ) []) hP
  have hD : va_D (lA s) (Wm ty g (τ) (Wc ty h ((g_La_chain (xs (i + 1)) (xs (i + 2)) σ o).2.1) ((ho, .inl (ty 1, 1, .inr (.inl ((g_La_chain (xs (i + 1)) (xs (i + 2)) σ o).2.2)))) :: px))) := rotD (a := Wc ty h ((g_La_chain (xs (i + 1)) (xs (i + 2)) σ o).2.1) ((ho, .inl (ty 1, 1, .inr (.inl ((g_La_chain (xs (i + 1)) (xs (i + 2)) σ o).2.2)))) :: px)) (b := Wm ty g (τ) []) hD
  refine va_calli (va_runV (As := [.int (xs (i + 1)), .int (xs (i + 2))]) (rest := []) ⟨hx, hb, hml, hown, hg⟩ (c_Mo_chain l D ty g (Wc ty h ((g_La_chain (xs (i + 1)) (xs (i + 2)) σ o).2.1) ((ho, .inl (ty 1, 1, .inr (.inl ((g_La_chain (xs (i + 1)) (xs (i + 2)) σ o).2.2)))) :: px)) sa (τ) H.size (xs (i + 1)) (xs (i + 2)) hk2) ⟨callB_of 2 hg (gw_C m_1567) rfl rfl rfl (hg _ m_13) (hg _ m_1564) hd_Mo_chain ⟨Nat.le_of_ble_eq_true rfl, Nat.le_of_ble_eq_true rfl⟩, hg _ m_1565, hg _ m_1566⟩ (zz_preVW hM hS (lA_in s) hN hK hP hD 0 rfl rfl) rfl rfl hl.1 rfl (lv_room (Nat.le_of_ble_eq_true rfl)) d_La_law_704 ⟨hcl0, hsl0⟩) hS (fun q _ h9 => zz_free hD hS (lA_in s) q h9) (zz_free hD hS (lA_in s)) (fun r704 u704 t H locs ht hvm hp hP1 hz9 hk9 hS => ?_)
  rw [ht] at hP1
  obtain ⟨rfl, rfl⟩ : r704 = (f_Mo_chain (xs (i + 1)) (xs (i + 2)) (τ)).1 ∧ u704 = (f_Mo_chain (xs (i + 1)) (xs (i + 2)) (τ)).2 := by rw [← hp]; exact ⟨rfl, rfl⟩
  clear hp
  have hP : va_P D classes (Wm ty g ((f_Mo_chain (xs (i + 1)) (xs (i + 2)) (τ)).2) (Wc ty h ((g_La_chain (xs (i + 1)) (xs (i + 2)) σ o).2.1) ((ho, .inl (ty 1, 1, .inr (.inl ((g_La_chain (xs (i + 1)) (xs (i + 2)) σ o).2.2)))) :: px))) H := hP1
  have hD : va_D (lA s) (Wm ty g ((f_Mo_chain (xs (i + 1)) (xs (i + 2)) (τ)).2) (Wc ty h ((g_La_chain (xs (i + 1)) (xs (i + 2)) σ o).2.1) ((ho, .inl (ty 1, 1, .inr (.inl ((g_La_chain (xs (i + 1)) (xs (i + 2)) σ o).2.2)))) :: px))) := zz_D hD rfl
  have hP : va_P D classes (Wc ty h ((g_La_chain (xs (i + 1)) (xs (i + 2)) σ o).2.1) ((ho, .inl (ty 1, 1, .inr (.inl ((g_La_chain (xs (i + 1)) (xs (i + 2)) σ o).2.2)))) :: (px ++ Wm ty g ((f_Mo_chain (xs (i + 1)) (xs (i + 2)) (τ)).2) []))) H := rotP (a := Wm ty g ((f_Mo_chain (xs (i + 1)) (xs (i + 2)) (τ)).2) []) (b := Wc ty h ((g_La_chain (xs (i + 1)) (xs (i + 2)) σ o).2.1) ((ho, .inl (ty 1, 1, .inr (.inl ((g_La_chain (xs (i + 1)) (xs (i + 2)) σ o).2.2)))) :: px)) hP
  have hD : va_D (lA s) (Wc ty h ((g_La_chain (xs (i + 1)) (xs (i + 2)) σ o).2.1) ((ho, .inl (ty 1, 1, .inr (.inl ((g_La_chain (xs (i + 1)) (xs (i + 2)) σ o).2.2)))) :: (px ++ Wm ty g ((f_Mo_chain (xs (i + 1)) (xs (i + 2)) (τ)).2) []))) := rotD (a := Wm ty g ((f_Mo_chain (xs (i + 1)) (xs (i + 2)) (τ)).2) []) (b := Wc ty h ((g_La_chain (xs (i + 1)) (xs (i + 2)) σ o).2.1) ((ho, .inl (ty 1, 1, .inr (.inl ((g_La_chain (xs (i + 1)) (xs (i + 2)) σ o).2.2)))) :: px)) hD
  refine lv_istore (lv' := [(6, .int (f_Mo_chain (xs (i + 1)) (xs (i + 2)) (τ)).1), (5, .int (g_La_chain (xs (i + 1)) (xs (i + 2)) σ o).1), (0, .ref b), (1, .ref (h 0)), (2, .ref (g 0)), (3, .ref ho), (4, .int (nI i))]) hx hb d_La_law_707 hl (by decide) rfl (fun ls hl => ?_)
  refine lv_aload_n hx hb d_La_law_709 rfl (lv_at hl 4 rfl) ?_
  have hP : va_P D classes (Wm ty g ((f_Mo_chain (xs (i + 1)) (xs (i + 2)) (τ)).2) (Wc ty h ((g_La_chain (xs (i + 1)) (xs (i + 2)) σ o).2.1) ((ho, .inl (ty 1, 1, .inr (.inl ((g_La_chain (xs (i + 1)) (xs (i + 2)) σ o).2.2)))) :: px))) H := rotP (a := Wc ty h ((g_La_chain (xs (i + 1)) (xs (i + 2)) σ o).2.1) ((ho, .inl (ty 1, 1, .inr (.inl ((g_La_chain (xs (i + 1)) (xs (i + 2)) σ o).2.2)))) :: px)) (b := Wm ty g ((f_Mo_chain (xs (i + 1)) (xs (i + 2)) (τ)).2) []) hP
  have hD : va_D (lA s) (Wm ty g ((f_Mo_chain (xs (i + 1)) (xs (i + 2)) (τ)).2) (Wc ty h ((g_La_chain (xs (i + 1)) (xs (i + 2)) σ o).2.1) ((ho, .inl (ty 1, 1, .inr (.inl ((g_La_chain (xs (i + 1)) (xs (i + 2)) σ o).2.2)))) :: px))) := rotD (a := Wc ty h ((g_La_chain (xs (i + 1)) (xs (i + 2)) σ o).2.1) ((ho, .inl (ty 1, 1, .inr (.inl ((g_La_chain (xs (i + 1)) (xs (i + 2)) σ o).2.2)))) :: px)) (b := Wm ty g ((f_Mo_chain (xs (i + 1)) (xs (i + 2)) (τ)).2) []) hD
  refine zz_callV (va_runV (As := []) (rest := []) ⟨hx, hb, hml, hown, hg⟩ (c_Mo_thrown l D ty g (Wc ty h ((g_La_chain (xs (i + 1)) (xs (i + 2)) σ o).2.1) ((ho, .inl (ty 1, 1, .inr (.inl ((g_La_chain (xs (i + 1)) (xs (i + 2)) σ o).2.2)))) :: px)) sa ((f_Mo_chain (xs (i + 1)) (xs (i + 2)) (τ)).2) trivial) ⟨callB_of 0 hg (gw_C m_1416) rfl rfl rfl (hg _ m_13) (hg _ m_1413) hd_Mo_thrown ⟨Nat.le_of_ble_eq_true rfl, Nat.le_of_ble_eq_true rfl⟩, hg _ m_1414, hg _ m_1415⟩ (zz_preV (hM.at hS) hN hK hP 0 rfl rfl) rfl rfl hl.1 rfl (lv_room (Nat.le_of_ble_eq_true rfl)) d_La_law_710 ⟨hcl0, hsl0⟩) ?_
  have hP : va_P D classes (Wc ty h ((g_La_chain (xs (i + 1)) (xs (i + 2)) σ o).2.1) ((ho, .inl (ty 1, 1, .inr (.inl ((g_La_chain (xs (i + 1)) (xs (i + 2)) σ o).2.2)))) :: (px ++ Wm ty g ((f_Mo_chain (xs (i + 1)) (xs (i + 2)) (τ)).2) []))) H := rotP (a := Wm ty g ((f_Mo_chain (xs (i + 1)) (xs (i + 2)) (τ)).2) []) (b := Wc ty h ((g_La_chain (xs (i + 1)) (xs (i + 2)) σ o).2.1) ((ho, .inl (ty 1, 1, .inr (.inl ((g_La_chain (xs (i + 1)) (xs (i + 2)) σ o).2.2)))) :: px)) hP
  have hD : va_D (lA s) (Wc ty h ((g_La_chain (xs (i + 1)) (xs (i + 2)) σ o).2.1) ((ho, .inl (ty 1, 1, .inr (.inl ((g_La_chain (xs (i + 1)) (xs (i + 2)) σ o).2.2)))) :: (px ++ Wm ty g ((f_Mo_chain (xs (i + 1)) (xs (i + 2)) (τ)).2) []))) := rotD (a := Wm ty g ((f_Mo_chain (xs (i + 1)) (xs (i + 2)) (τ)).2) []) (b := Wc ty h ((g_La_chain (xs (i + 1)) (xs (i + 2)) σ o).2.1) ((ho, .inl (ty 1, 1, .inr (.inl ((g_La_chain (xs (i + 1)) (xs (i + 2)) σ o).2.2)))) :: px)) hD
  refine lv_iload hx hb d_La_law_713 (lv_at hl 1 rfl) ?_
  refine lv_icmp_eq (tgt := 720) hx hb d_La_law_715 (by decide) (fun _ => ?_) (fun hc => absurd hA1 hc)
  refine lv_iload hx hb d_La_law_720 (lv_at hl 1 rfl) ?_
  refine lv_if_ne (tgt := 737) hx hb d_La_law_722 (by decide) (fun _ => ?_) (fun hc => ?_)
  · exact K _ _ _ (lv_sub hl [2, 3, 4, 5, 6] rfl) hP hD hS
  refine lv_aload_n hx hb d_La_law_725 rfl (lv_at hl 5 rfl) ?_
  refine lv_iconst (v := 0) hx hb d_La_law_726 (by decide) ?_
  refine va_lald hx hb hK hP 36 1 rfl rfl (vp_in_iff.mpr (by decide)) d_La_law_727 ?_
  refine lv_iload hx hb d_La_law_728 (lv_at hl 0 rfl) ?_
  refine lv_i2l hx hb d_La_law_730 rfl ?_
  refine W.lcmp hx hb d_La_law_731 ?_
  refine lv_if_eq (tgt := 737) hx hb d_La_law_732 (by decide) (fun _ => ?_) (fun hc2 => absurd ((lg_cmp_eq _ _).mpr (hA2 hc)) hc2)
  exact K _ _ _ (lv_sub hl [2, 3, 4, 5, 6] rfl) hP hD hS

set_option maxHeartbeats 4000000 in
set_option maxRecDepth 100000 in
theorem la_11 {p : Program} {l : Launch} {e : Env} {s : State} {m : MethodId} {args : Array Value} {below : List Frame} {meth : Method} {c : Code} {H : Heap} {locs : List Loc} {cells slots : Nat} {Q : State → Prop} {b L i ho : Nat} {xs : Nat → Int32} {D : va_G} {ty sa h g : Nat → Nat} {px : va_W} {σ τ : St} {o : Nat → Int64} {ls : Array Slot} (hlt : l.stackTraces = false) (C : lwC p s m args c b L xs D ty sa) (hi : i + 7 ≤ L) (hL : L < 2 ^ 31) (hcl : cells + 1 ≤ room_1.cells) (hsl : slots + 6 ≤ room_1.slots) (hl : lv_has ls 7 [(0, .ref b), (1, .ref (h 0)), (2, .ref (g 0)), (3, .ref ho), (4, .int (nI i))]) (hP : va_P D classes (Wc ty h σ ((ho, .inl (ty 1, 1, .inr (.inl o))) :: (px ++ Wm ty g (τ) []))) H) (hD : va_D (lA s) (Wc ty h σ ((ho, .inl (ty 1, 1, .inr (.inl o))) :: (px ++ Wm ty g (τ) [])))) (hS : va_S (lA s) s.heap H locs) (hk1 : k_CL_turn (xs (i + 1)) σ) (hE : ∀ E, (f_CL_turn (xs (i + 1)) σ).1 = .inr E → E = 1 ∨ E = 2 ∨ E = 3 ∨ E = 4) (hk2 : k_Mo_turn (xs (i + 1)) τ) (hA1 : (f_Mo_thrown ((f_Mo_turn (xs (i + 1)) (τ)).2)) = (g_La_turn (xs (i + 1)) σ o).1) (hA2 : (g_La_turn (xs (i + 1)) σ o).1 = 0 → (g_La_turn (xs (i + 1)) σ o).2.2 0 = (f_Mo_turn (xs (i + 1)) τ).1.toInt64)
    (K : ∀ (H : Heap) (locs : List Loc) (ls : Array Slot), lv_has ls 7 [(0, .ref b), (1, .ref (h 0)), (2, .ref (g 0)), (3, .ref ho), (4, .int (nI i))] → va_P D classes (Wc ty h ((g_La_turn (xs (i + 1)) σ o).2.1) ((ho, .inl (ty 1, 1, .inr (.inl ((g_La_turn (xs (i + 1)) σ o).2.2)))) :: (px ++ Wm ty g ((f_Mo_turn (xs (i + 1)) (τ)).2) []))) H → va_D (lA s) (Wc ty h ((g_La_turn (xs (i + 1)) σ o).2.1) ((ho, .inl (ty 1, 1, .inr (.inl ((g_La_turn (xs (i + 1)) σ o).2.2)))) :: (px ++ Wm ty g ((f_Mo_turn (xs (i + 1)) (τ)).2) []))) → va_S (lA s) s.heap H locs → W p l e room_1 s m args below meth c H locs (cells + 1) (slots + 6) Q (F0 m 793 ls [])) : W p l e room_1 s m args below meth c H locs cells slots Q (F0 m 740 ls []) := by
  obtain ⟨hx, hb, hml, hown, hg, hXs, hbl, hK, hN, hNC, hXK, hM⟩ := C
  have hcl0 : cells + 1 + 0 ≤ room_1.cells := hcl
  have hsl0 : slots + 6 + 0 ≤ room_1.slots := hsl
  refine lv_aload_n hx hb d_La_law_740 rfl (lv_at hl 1 rfl) ?_
  refine lv_aload_n hx hb d_La_law_741 rfl (lv_at hl 0 rfl) ?_
  refine lv_iload hx hb d_La_law_742 (lv_at hl 4 rfl) ?_
  refine lv_iconst (v := nI 1) hx hb d_La_law_744 (by decide) ?_
  refine lv_iadd hx hb d_La_law_745 ?_
  refine la_ld (k := 1) hx hb hXs hbl hS (by omega) (by omega) d_La_law_746 ?_
  refine lv_aload_n hx hb d_La_law_747 rfl (lv_at hl 3 rfl) ?_
  refine x_callSW (As := [.ref (h 0), .int (xs (i + 1)), .ref ho]) (rest := []) (n := 3) (mc := 1) (ms := 6) ⟨hx, hb, hml, hown, hg⟩ (c_La_turn l hlt D ty h (px ++ Wm ty g τ []) sa ho o σ H.size (xs (i + 1)) hk1 hE) rfl rfl (Nat.le_of_ble_eq_true rfl) (Nat.le_of_ble_eq_true rfl) (pay_in hg (gw_C m_1048)) List.mem_cons_self (hg _ m_1048) (hg _ m_0) (hg _ m_1047) (hg _ m_1046) ⟨hd_La_turn.1, hd_La_turn.2.1⟩ (fun sig h9 => by have h8 := hd_La_turn.2.2; rw [h9] at h8; exact (Option.some.inj h8).symm) (zz_preL hM hN hNC hXK hS (lA_in s) hK hP hD) rfl hl.1 rfl (Nat.le_of_ble_eq_true rfl) d_La_law_748 ⟨hcl, hsl⟩ (fun q9 st9 t9 h9 => by cases h9.2.2) (fun v9 st9 t9 L9 h09 hal9 hR9 hL9 => ?_)
  obtain ⟨hF9, hP9, hv9⟩ := hR9
  cases hv9
  have hS := zz_xS hS h09 hF9 (zz_free hD hS (lA_in s)) hL9
  have hP := hP9
  have hD : va_D (lA s) (Wc ty h ((g_La_turn (xs (i + 1)) σ o).2.1) ((ho, .inl (ty 1, 1, .inr (.inl ((g_La_turn (xs (i + 1)) σ o).2.2)))) :: (px ++ Wm ty g (τ) []))) := zz_D hD rfl
  generalize t9.heap = H at hP hS ⊢
  refine W.eq (g2 := F0 m 751 ls (.int (g_La_turn (xs (i + 1)) σ o).1 :: [])) rfl ?_
  refine lv_istore (lv' := [(5, .int (g_La_turn (xs (i + 1)) σ o).1), (0, .ref b), (1, .ref (h 0)), (2, .ref (g 0)), (3, .ref ho), (4, .int (nI i))]) hx hb d_La_law_751 hl (by decide) rfl (fun ls hl => ?_)
  refine lv_aload_n hx hb d_La_law_753 rfl (lv_at hl 3 rfl) ?_
  refine lv_aload_n hx hb d_La_law_754 rfl (lv_at hl 1 rfl) ?_
  refine lv_iload hx hb d_La_law_755 (lv_at hl 5 rfl) ?_
  refine lv_iconst (v := nI 1) hx hb d_La_law_757 (by decide) ?_
  refine lv_iadd hx hb d_La_law_758 ?_
  refine la_ld (k := 1) hx hb hXs hbl hS (by omega) (by omega) d_La_law_759 ?_
  have hP : va_P D classes (Wm ty g (τ) (Wc ty h ((g_La_turn (xs (i + 1)) σ o).2.1) ((ho, .inl (ty 1, 1, .inr (.inl ((g_La_turn (xs (i + 1)) σ o).2.2)))) :: px))) H := rotP (a := Wc ty h ((g_La_turn (xs (i + 1)) σ o).2.1) ((ho, .inl (ty 1, 1, .inr (.inl ((g_La_turn (xs (i + 1)) σ o).2.2)))) :: px)) (b := Wm ty g (τ) []) hP
  have hD : va_D (lA s) (Wm ty g (τ) (Wc ty h ((g_La_turn (xs (i + 1)) σ o).2.1) ((ho, .inl (ty 1, 1, .inr (.inl ((g_La_turn (xs (i + 1)) σ o).2.2)))) :: px))) := rotD (a := Wc ty h ((g_La_turn (xs (i + 1)) σ o).2.1) ((ho, .inl (ty 1, 1, .inr (.inl ((g_La_turn (xs (i + 1)) σ o).2.2)))) :: px)) (b := Wm ty g (τ) []) hD
  refine va_calli (va_runV (As := [.int (xs (i + 1))]) (rest := []) ⟨hx, hb, hml, hown, hg⟩ (c_Mo_turn l D ty g (Wc ty h ((g_La_turn (xs (i + 1)) σ o).2.1) ((ho, .inl (ty 1, 1, .inr (.inl ((g_La_turn (xs (i + 1)) σ o).2.2)))) :: px)) sa (τ) H.size (xs (i + 1)) hk2) ⟨callB_of 1 hg (gw_C m_1571) rfl rfl rfl (hg _ m_13) (hg _ m_1568) hd_Mo_turn ⟨Nat.le_of_ble_eq_true rfl, Nat.le_of_ble_eq_true rfl⟩, hg _ m_1569, hg _ m_1570⟩ (zz_preVW hM hS (lA_in s) hN hK hP hD 0 rfl rfl) rfl rfl hl.1 rfl (lv_room (Nat.le_of_ble_eq_true rfl)) d_La_law_760 ⟨hcl0, hsl0⟩) hS (fun q _ h9 => zz_free hD hS (lA_in s) q h9) (zz_free hD hS (lA_in s)) (fun r760 u760 t H locs ht hvm hp hP1 hz9 hk9 hS => ?_)
  rw [ht] at hP1
  obtain ⟨rfl, rfl⟩ : r760 = (f_Mo_turn (xs (i + 1)) (τ)).1 ∧ u760 = (f_Mo_turn (xs (i + 1)) (τ)).2 := by rw [← hp]; exact ⟨rfl, rfl⟩
  clear hp
  have hP : va_P D classes (Wm ty g ((f_Mo_turn (xs (i + 1)) (τ)).2) (Wc ty h ((g_La_turn (xs (i + 1)) σ o).2.1) ((ho, .inl (ty 1, 1, .inr (.inl ((g_La_turn (xs (i + 1)) σ o).2.2)))) :: px))) H := hP1
  have hD : va_D (lA s) (Wm ty g ((f_Mo_turn (xs (i + 1)) (τ)).2) (Wc ty h ((g_La_turn (xs (i + 1)) σ o).2.1) ((ho, .inl (ty 1, 1, .inr (.inl ((g_La_turn (xs (i + 1)) σ o).2.2)))) :: px))) := zz_D hD rfl
  have hP : va_P D classes (Wc ty h ((g_La_turn (xs (i + 1)) σ o).2.1) ((ho, .inl (ty 1, 1, .inr (.inl ((g_La_turn (xs (i + 1)) σ o).2.2)))) :: (px ++ Wm ty g ((f_Mo_turn (xs (i + 1)) (τ)).2) []))) H := rotP (a := Wm ty g ((f_Mo_turn (xs (i + 1)) (τ)).2) []) (b := Wc ty h ((g_La_turn (xs (i + 1)) σ o).2.1) ((ho, .inl (ty 1, 1, .inr (.inl ((g_La_turn (xs (i + 1)) σ o).2.2)))) :: px)) hP
  have hD : va_D (lA s) (Wc ty h ((g_La_turn (xs (i + 1)) σ o).2.1) ((ho, .inl (ty 1, 1, .inr (.inl ((g_La_turn (xs (i + 1)) σ o).2.2)))) :: (px ++ Wm ty g ((f_Mo_turn (xs (i + 1)) (τ)).2) []))) := rotD (a := Wm ty g ((f_Mo_turn (xs (i + 1)) (τ)).2) []) (b := Wc ty h ((g_La_turn (xs (i + 1)) σ o).2.1) ((ho, .inl (ty 1, 1, .inr (.inl ((g_La_turn (xs (i + 1)) σ o).2.2)))) :: px)) hD
  refine lv_istore (lv' := [(6, .int (f_Mo_turn (xs (i + 1)) (τ)).1), (5, .int (g_La_turn (xs (i + 1)) σ o).1), (0, .ref b), (1, .ref (h 0)), (2, .ref (g 0)), (3, .ref ho), (4, .int (nI i))]) hx hb d_La_law_763 hl (by decide) rfl (fun ls hl => ?_)
  refine lv_aload_n hx hb d_La_law_765 rfl (lv_at hl 4 rfl) ?_
  have hP : va_P D classes (Wm ty g ((f_Mo_turn (xs (i + 1)) (τ)).2) (Wc ty h ((g_La_turn (xs (i + 1)) σ o).2.1) ((ho, .inl (ty 1, 1, .inr (.inl ((g_La_turn (xs (i + 1)) σ o).2.2)))) :: px))) H := rotP (a := Wc ty h ((g_La_turn (xs (i + 1)) σ o).2.1) ((ho, .inl (ty 1, 1, .inr (.inl ((g_La_turn (xs (i + 1)) σ o).2.2)))) :: px)) (b := Wm ty g ((f_Mo_turn (xs (i + 1)) (τ)).2) []) hP
  have hD : va_D (lA s) (Wm ty g ((f_Mo_turn (xs (i + 1)) (τ)).2) (Wc ty h ((g_La_turn (xs (i + 1)) σ o).2.1) ((ho, .inl (ty 1, 1, .inr (.inl ((g_La_turn (xs (i + 1)) σ o).2.2)))) :: px))) := rotD (a := Wc ty h ((g_La_turn (xs (i + 1)) σ o).2.1) ((ho, .inl (ty 1, 1, .inr (.inl ((g_La_turn (xs (i + 1)) σ o).2.2)))) :: px)) (b := Wm ty g ((f_Mo_turn (xs (i + 1)) (τ)).2) []) hD
  refine zz_callV (va_runV (As := []) (rest := []) ⟨hx, hb, hml, hown, hg⟩ (c_Mo_thrown l D ty g (Wc ty h ((g_La_turn (xs (i + 1)) σ o).2.1) ((ho, .inl (ty 1, 1, .inr (.inl ((g_La_turn (xs (i + 1)) σ o).2.2)))) :: px)) sa ((f_Mo_turn (xs (i + 1)) (τ)).2) trivial) ⟨callB_of 0 hg (gw_C m_1416) rfl rfl rfl (hg _ m_13) (hg _ m_1413) hd_Mo_thrown ⟨Nat.le_of_ble_eq_true rfl, Nat.le_of_ble_eq_true rfl⟩, hg _ m_1414, hg _ m_1415⟩ (zz_preV (hM.at hS) hN hK hP 0 rfl rfl) rfl rfl hl.1 rfl (lv_room (Nat.le_of_ble_eq_true rfl)) d_La_law_766 ⟨hcl0, hsl0⟩) ?_
  have hP : va_P D classes (Wc ty h ((g_La_turn (xs (i + 1)) σ o).2.1) ((ho, .inl (ty 1, 1, .inr (.inl ((g_La_turn (xs (i + 1)) σ o).2.2)))) :: (px ++ Wm ty g ((f_Mo_turn (xs (i + 1)) (τ)).2) []))) H := rotP (a := Wm ty g ((f_Mo_turn (xs (i + 1)) (τ)).2) []) (b := Wc ty h ((g_La_turn (xs (i + 1)) σ o).2.1) ((ho, .inl (ty 1, 1, .inr (.inl ((g_La_turn (xs (i + 1)) σ o).2.2)))) :: px)) hP
  have hD : va_D (lA s) (Wc ty h ((g_La_turn (xs (i + 1)) σ o).2.1) ((ho, .inl (ty 1, 1, .inr (.inl ((g_La_turn (xs (i + 1)) σ o).2.2)))) :: (px ++ Wm ty g ((f_Mo_turn (xs (i + 1)) (τ)).2) []))) := rotD (a := Wm ty g ((f_Mo_turn (xs (i + 1)) (τ)).2) []) (b := Wc ty h ((g_La_turn (xs (i + 1)) σ o).2.1) ((ho, .inl (ty 1, 1, .inr (.inl ((g_La_turn (xs (i + 1)) σ o).2.2)))) :: px)) hD
  refine lv_iload hx hb d_La_law_769 (lv_at hl 1 rfl) ?_
  refine lv_icmp_eq (tgt := 776) hx hb d_La_law_771 (by decide) (fun _ => ?_) (fun hc => absurd hA1 hc)
  refine lv_iload hx hb d_La_law_776 (lv_at hl 1 rfl) ?_
  refine lv_if_ne (tgt := 793) hx hb d_La_law_778 (by decide) (fun _ => ?_) (fun hc => ?_)
  · exact K _ _ _ (lv_sub hl [2, 3, 4, 5, 6] rfl) hP hD hS
  refine lv_aload_n hx hb d_La_law_781 rfl (lv_at hl 5 rfl) ?_
  refine lv_iconst (v := 0) hx hb d_La_law_782 (by decide) ?_
  refine va_lald hx hb hK hP 36 1 rfl rfl (vp_in_iff.mpr (by decide)) d_La_law_783 ?_
  refine lv_iload hx hb d_La_law_784 (lv_at hl 0 rfl) ?_
  refine lv_i2l hx hb d_La_law_786 rfl ?_
  refine W.lcmp hx hb d_La_law_787 ?_
  refine lv_if_eq (tgt := 793) hx hb d_La_law_788 (by decide) (fun _ => ?_) (fun hc2 => absurd ((lg_cmp_eq _ _).mpr (hA2 hc)) hc2)
  exact K _ _ _ (lv_sub hl [2, 3, 4, 5, 6] rfl) hP hD hS

set_option maxHeartbeats 4000000 in
set_option maxRecDepth 100000 in
theorem la_12 {p : Program} {l : Launch} {e : Env} {s : State} {m : MethodId} {args : Array Value} {below : List Frame} {meth : Method} {c : Code} {H : Heap} {locs : List Loc} {cells slots : Nat} {Q : State → Prop} {b L i ho : Nat} {xs : Nat → Int32} {D : va_G} {ty sa h g : Nat → Nat} {px : va_W} {σ τ : St} {o : Nat → Int64} {ls : Array Slot} (hlt : l.stackTraces = false) (C : lwC p s m args c b L xs D ty sa) (hi : i + 7 ≤ L) (hL : L < 2 ^ 31) (hcl : cells + 1 ≤ room_1.cells) (hsl : slots + 6 ≤ room_1.slots) (hl : lv_has ls 7 [(0, .ref b), (1, .ref (h 0)), (2, .ref (g 0)), (3, .ref ho), (4, .int (nI i))]) (hP : va_P D classes (Wc ty h σ ((ho, .inl (ty 1, 1, .inr (.inl o))) :: (px ++ Wm ty g (τ) []))) H) (hD : va_D (lA s) (Wc ty h σ ((ho, .inl (ty 1, 1, .inr (.inl o))) :: (px ++ Wm ty g (τ) [])))) (hS : va_S (lA s) s.heap H locs) (hk1 : k_CL_replace (xs (i + 1)) (xs (i + 2)) σ) (hE : ∀ E, (f_CL_replace (xs (i + 1)) (xs (i + 2)) σ).1 = .inr E → E = 1 ∨ E = 2 ∨ E = 3 ∨ E = 4) (hk2 : k_Mo_replace (xs (i + 1)) (xs (i + 2)) τ) (hA1 : (f_Mo_thrown ((f_Mo_replace (xs (i + 1)) (xs (i + 2)) (τ)).2)) = (g_La_replace (xs (i + 1)) (xs (i + 2)) σ o).1) (hA2 : (g_La_replace (xs (i + 1)) (xs (i + 2)) σ o).1 = 0 → (g_La_replace (xs (i + 1)) (xs (i + 2)) σ o).2.2 0 = (f_Mo_replace (xs (i + 1)) (xs (i + 2)) τ).1.toInt64)
    (K : ∀ (H : Heap) (locs : List Loc) (ls : Array Slot), lv_has ls 7 [(0, .ref b), (1, .ref (h 0)), (2, .ref (g 0)), (3, .ref ho), (4, .int (nI i))] → va_P D classes (Wc ty h ((g_La_replace (xs (i + 1)) (xs (i + 2)) σ o).2.1) ((ho, .inl (ty 1, 1, .inr (.inl ((g_La_replace (xs (i + 1)) (xs (i + 2)) σ o).2.2)))) :: (px ++ Wm ty g ((f_Mo_replace (xs (i + 1)) (xs (i + 2)) (τ)).2) []))) H → va_D (lA s) (Wc ty h ((g_La_replace (xs (i + 1)) (xs (i + 2)) σ o).2.1) ((ho, .inl (ty 1, 1, .inr (.inl ((g_La_replace (xs (i + 1)) (xs (i + 2)) σ o).2.2)))) :: (px ++ Wm ty g ((f_Mo_replace (xs (i + 1)) (xs (i + 2)) (τ)).2) []))) → va_S (lA s) s.heap H locs → W p l e room_1 s m args below meth c H locs (cells + 1) (slots + 6) Q (F0 m 861 ls [])) : W p l e room_1 s m args below meth c H locs cells slots Q (F0 m 796 ls []) := by
  obtain ⟨hx, hb, hml, hown, hg, hXs, hbl, hK, hN, hNC, hXK, hM⟩ := C
  have hcl0 : cells + 1 + 0 ≤ room_1.cells := hcl
  have hsl0 : slots + 6 + 0 ≤ room_1.slots := hsl
  refine lv_aload_n hx hb d_La_law_796 rfl (lv_at hl 1 rfl) ?_
  refine lv_aload_n hx hb d_La_law_797 rfl (lv_at hl 0 rfl) ?_
  refine lv_iload hx hb d_La_law_798 (lv_at hl 4 rfl) ?_
  refine lv_iconst (v := nI 1) hx hb d_La_law_800 (by decide) ?_
  refine lv_iadd hx hb d_La_law_801 ?_
  refine la_ld (k := 1) hx hb hXs hbl hS (by omega) (by omega) d_La_law_802 ?_
  refine lv_aload_n hx hb d_La_law_803 rfl (lv_at hl 0 rfl) ?_
  refine lv_iload hx hb d_La_law_804 (lv_at hl 4 rfl) ?_
  refine lv_iconst (v := nI 2) hx hb d_La_law_806 (by decide) ?_
  refine lv_iadd hx hb d_La_law_807 ?_
  refine la_ld (k := 2) hx hb hXs hbl hS (by omega) (by omega) d_La_law_808 ?_
  refine lv_aload_n hx hb d_La_law_809 rfl (lv_at hl 3 rfl) ?_
  refine x_callSW (As := [.ref (h 0), .int (xs (i + 1)), .int (xs (i + 2)), .ref ho]) (rest := []) (n := 4) (mc := 1) (ms := 6) ⟨hx, hb, hml, hown, hg⟩ (c_La_replace l hlt D ty h (px ++ Wm ty g τ []) sa ho o σ H.size (xs (i + 1)) (xs (i + 2)) hk1 hE) rfl rfl (Nat.le_of_ble_eq_true rfl) (Nat.le_of_ble_eq_true rfl) (pay_in hg (gw_C m_1055)) List.mem_cons_self (hg _ m_1055) (hg _ m_0) (hg _ m_1054) (hg _ m_1053) ⟨hd_La_replace.1, hd_La_replace.2.1⟩ (fun sig h9 => by have h8 := hd_La_replace.2.2; rw [h9] at h8; exact (Option.some.inj h8).symm) (zz_preL hM hN hNC hXK hS (lA_in s) hK hP hD) rfl hl.1 rfl (Nat.le_of_ble_eq_true rfl) d_La_law_810 ⟨hcl, hsl⟩ (fun q9 st9 t9 h9 => by cases h9.2.2) (fun v9 st9 t9 L9 h09 hal9 hR9 hL9 => ?_)
  obtain ⟨hF9, hP9, hv9⟩ := hR9
  cases hv9
  have hS := zz_xS hS h09 hF9 (zz_free hD hS (lA_in s)) hL9
  have hP := hP9
  have hD : va_D (lA s) (Wc ty h ((g_La_replace (xs (i + 1)) (xs (i + 2)) σ o).2.1) ((ho, .inl (ty 1, 1, .inr (.inl ((g_La_replace (xs (i + 1)) (xs (i + 2)) σ o).2.2)))) :: (px ++ Wm ty g (τ) []))) := zz_D hD rfl
  generalize t9.heap = H at hP hS ⊢
  refine W.eq (g2 := F0 m 813 ls (.int (g_La_replace (xs (i + 1)) (xs (i + 2)) σ o).1 :: [])) rfl ?_
  refine lv_istore (lv' := [(5, .int (g_La_replace (xs (i + 1)) (xs (i + 2)) σ o).1), (0, .ref b), (1, .ref (h 0)), (2, .ref (g 0)), (3, .ref ho), (4, .int (nI i))]) hx hb d_La_law_813 hl (by decide) rfl (fun ls hl => ?_)
  refine lv_aload_n hx hb d_La_law_815 rfl (lv_at hl 3 rfl) ?_
  refine lv_aload_n hx hb d_La_law_816 rfl (lv_at hl 1 rfl) ?_
  refine lv_iload hx hb d_La_law_817 (lv_at hl 5 rfl) ?_
  refine lv_iconst (v := nI 1) hx hb d_La_law_819 (by decide) ?_
  refine lv_iadd hx hb d_La_law_820 ?_
  refine la_ld (k := 1) hx hb hXs hbl hS (by omega) (by omega) d_La_law_821 ?_
  refine lv_aload_n hx hb d_La_law_822 rfl (lv_at hl 1 rfl) ?_
  refine lv_iload hx hb d_La_law_823 (lv_at hl 5 rfl) ?_
  refine lv_iconst (v := nI 2) hx hb d_La_law_825 (by decide) ?_
  refine lv_iadd hx hb d_La_law_826 ?_
  refine la_ld (k := 2) hx hb hXs hbl hS (by omega) (by omega) d_La_law_827 ?_
  have hP : va_P D classes (Wm ty g (τ) (Wc ty h ((g_La_replace (xs (i + 1)) (xs (i + 2)) σ o).2.1) ((ho, .inl (ty 1, 1, .inr (.inl ((g_La_replace (xs (i + 1)) (xs (i + 2)) σ o).2.2)))) :: px))) H := rotP (a := Wc ty h ((g_La_replace (xs (i + 1)) (xs (i + 2)) σ o).2.1) ((ho, .inl (ty 1, 1, .inr (.inl ((g_La_replace (xs (i + 1)) (xs (i + 2)) σ o).2.2)))) :: px)) (b := Wm ty g (τ) []) hP
  have hD : va_D (lA s) (Wm ty g (τ) (Wc ty h ((g_La_replace (xs (i + 1)) (xs (i + 2)) σ o).2.1) ((ho, .inl (ty 1, 1, .inr (.inl ((g_La_replace (xs (i + 1)) (xs (i + 2)) σ o).2.2)))) :: px))) := rotD (a := Wc ty h ((g_La_replace (xs (i + 1)) (xs (i + 2)) σ o).2.1) ((ho, .inl (ty 1, 1, .inr (.inl ((g_La_replace (xs (i + 1)) (xs (i + 2)) σ o).2.2)))) :: px)) (b := Wm ty g (τ) []) hD
  refine va_calli (va_runV (As := [.int (xs (i + 1)), .int (xs (i + 2))]) (rest := []) ⟨hx, hb, hml, hown, hg⟩ (c_Mo_replace l D ty g (Wc ty h ((g_La_replace (xs (i + 1)) (xs (i + 2)) σ o).2.1) ((ho, .inl (ty 1, 1, .inr (.inl ((g_La_replace (xs (i + 1)) (xs (i + 2)) σ o).2.2)))) :: px)) sa (τ) H.size (xs (i + 1)) (xs (i + 2)) hk2) ⟨callB_of 2 hg (gw_C m_1575) rfl rfl rfl (hg _ m_13) (hg _ m_1572) hd_Mo_replace ⟨Nat.le_of_ble_eq_true rfl, Nat.le_of_ble_eq_true rfl⟩, hg _ m_1573, hg _ m_1574⟩ (zz_preVW hM hS (lA_in s) hN hK hP hD 0 rfl rfl) rfl rfl hl.1 rfl (lv_room (Nat.le_of_ble_eq_true rfl)) d_La_law_828 ⟨hcl0, hsl0⟩) hS (fun q _ h9 => zz_free hD hS (lA_in s) q h9) (zz_free hD hS (lA_in s)) (fun r828 u828 t H locs ht hvm hp hP1 hz9 hk9 hS => ?_)
  rw [ht] at hP1
  obtain ⟨rfl, rfl⟩ : r828 = (f_Mo_replace (xs (i + 1)) (xs (i + 2)) (τ)).1 ∧ u828 = (f_Mo_replace (xs (i + 1)) (xs (i + 2)) (τ)).2 := by rw [← hp]; exact ⟨rfl, rfl⟩
  clear hp
  have hP : va_P D classes (Wm ty g ((f_Mo_replace (xs (i + 1)) (xs (i + 2)) (τ)).2) (Wc ty h ((g_La_replace (xs (i + 1)) (xs (i + 2)) σ o).2.1) ((ho, .inl (ty 1, 1, .inr (.inl ((g_La_replace (xs (i + 1)) (xs (i + 2)) σ o).2.2)))) :: px))) H := hP1
  have hD : va_D (lA s) (Wm ty g ((f_Mo_replace (xs (i + 1)) (xs (i + 2)) (τ)).2) (Wc ty h ((g_La_replace (xs (i + 1)) (xs (i + 2)) σ o).2.1) ((ho, .inl (ty 1, 1, .inr (.inl ((g_La_replace (xs (i + 1)) (xs (i + 2)) σ o).2.2)))) :: px))) := zz_D hD rfl
  have hP : va_P D classes (Wc ty h ((g_La_replace (xs (i + 1)) (xs (i + 2)) σ o).2.1) ((ho, .inl (ty 1, 1, .inr (.inl ((g_La_replace (xs (i + 1)) (xs (i + 2)) σ o).2.2)))) :: (px ++ Wm ty g ((f_Mo_replace (xs (i + 1)) (xs (i + 2)) (τ)).2) []))) H := rotP (a := Wm ty g ((f_Mo_replace (xs (i + 1)) (xs (i + 2)) (τ)).2) []) (b := Wc ty h ((g_La_replace (xs (i + 1)) (xs (i + 2)) σ o).2.1) ((ho, .inl (ty 1, 1, .inr (.inl ((g_La_replace (xs (i + 1)) (xs (i + 2)) σ o).2.2)))) :: px)) hP
  have hD : va_D (lA s) (Wc ty h ((g_La_replace (xs (i + 1)) (xs (i + 2)) σ o).2.1) ((ho, .inl (ty 1, 1, .inr (.inl ((g_La_replace (xs (i + 1)) (xs (i + 2)) σ o).2.2)))) :: (px ++ Wm ty g ((f_Mo_replace (xs (i + 1)) (xs (i + 2)) (τ)).2) []))) := rotD (a := Wm ty g ((f_Mo_replace (xs (i + 1)) (xs (i + 2)) (τ)).2) []) (b := Wc ty h ((g_La_replace (xs (i + 1)) (xs (i + 2)) σ o).2.1) ((ho, .inl (ty 1, 1, .inr (.inl ((g_La_replace (xs (i + 1)) (xs (i + 2)) σ o).2.2)))) :: px)) hD
  refine lv_istore (lv' := [(6, .int (f_Mo_replace (xs (i + 1)) (xs (i + 2)) (τ)).1), (5, .int (g_La_replace (xs (i + 1)) (xs (i + 2)) σ o).1), (0, .ref b), (1, .ref (h 0)), (2, .ref (g 0)), (3, .ref ho), (4, .int (nI i))]) hx hb d_La_law_831 hl (by decide) rfl (fun ls hl => ?_)
  refine lv_aload_n hx hb d_La_law_833 rfl (lv_at hl 4 rfl) ?_
  have hP : va_P D classes (Wm ty g ((f_Mo_replace (xs (i + 1)) (xs (i + 2)) (τ)).2) (Wc ty h ((g_La_replace (xs (i + 1)) (xs (i + 2)) σ o).2.1) ((ho, .inl (ty 1, 1, .inr (.inl ((g_La_replace (xs (i + 1)) (xs (i + 2)) σ o).2.2)))) :: px))) H := rotP (a := Wc ty h ((g_La_replace (xs (i + 1)) (xs (i + 2)) σ o).2.1) ((ho, .inl (ty 1, 1, .inr (.inl ((g_La_replace (xs (i + 1)) (xs (i + 2)) σ o).2.2)))) :: px)) (b := Wm ty g ((f_Mo_replace (xs (i + 1)) (xs (i + 2)) (τ)).2) []) hP
  have hD : va_D (lA s) (Wm ty g ((f_Mo_replace (xs (i + 1)) (xs (i + 2)) (τ)).2) (Wc ty h ((g_La_replace (xs (i + 1)) (xs (i + 2)) σ o).2.1) ((ho, .inl (ty 1, 1, .inr (.inl ((g_La_replace (xs (i + 1)) (xs (i + 2)) σ o).2.2)))) :: px))) := rotD (a := Wc ty h ((g_La_replace (xs (i + 1)) (xs (i + 2)) σ o).2.1) ((ho, .inl (ty 1, 1, .inr (.inl ((g_La_replace (xs (i + 1)) (xs (i + 2)) σ o).2.2)))) :: px)) (b := Wm ty g ((f_Mo_replace (xs (i + 1)) (xs (i + 2)) (τ)).2) []) hD
  refine zz_callV (va_runV (As := []) (rest := []) ⟨hx, hb, hml, hown, hg⟩ (c_Mo_thrown l D ty g (Wc ty h ((g_La_replace (xs (i + 1)) (xs (i + 2)) σ o).2.1) ((ho, .inl (ty 1, 1, .inr (.inl ((g_La_replace (xs (i + 1)) (xs (i + 2)) σ o).2.2)))) :: px)) sa ((f_Mo_replace (xs (i + 1)) (xs (i + 2)) (τ)).2) trivial) ⟨callB_of 0 hg (gw_C m_1416) rfl rfl rfl (hg _ m_13) (hg _ m_1413) hd_Mo_thrown ⟨Nat.le_of_ble_eq_true rfl, Nat.le_of_ble_eq_true rfl⟩, hg _ m_1414, hg _ m_1415⟩ (zz_preV (hM.at hS) hN hK hP 0 rfl rfl) rfl rfl hl.1 rfl (lv_room (Nat.le_of_ble_eq_true rfl)) d_La_law_834 ⟨hcl0, hsl0⟩) ?_
  have hP : va_P D classes (Wc ty h ((g_La_replace (xs (i + 1)) (xs (i + 2)) σ o).2.1) ((ho, .inl (ty 1, 1, .inr (.inl ((g_La_replace (xs (i + 1)) (xs (i + 2)) σ o).2.2)))) :: (px ++ Wm ty g ((f_Mo_replace (xs (i + 1)) (xs (i + 2)) (τ)).2) []))) H := rotP (a := Wm ty g ((f_Mo_replace (xs (i + 1)) (xs (i + 2)) (τ)).2) []) (b := Wc ty h ((g_La_replace (xs (i + 1)) (xs (i + 2)) σ o).2.1) ((ho, .inl (ty 1, 1, .inr (.inl ((g_La_replace (xs (i + 1)) (xs (i + 2)) σ o).2.2)))) :: px)) hP
  have hD : va_D (lA s) (Wc ty h ((g_La_replace (xs (i + 1)) (xs (i + 2)) σ o).2.1) ((ho, .inl (ty 1, 1, .inr (.inl ((g_La_replace (xs (i + 1)) (xs (i + 2)) σ o).2.2)))) :: (px ++ Wm ty g ((f_Mo_replace (xs (i + 1)) (xs (i + 2)) (τ)).2) []))) := rotD (a := Wm ty g ((f_Mo_replace (xs (i + 1)) (xs (i + 2)) (τ)).2) []) (b := Wc ty h ((g_La_replace (xs (i + 1)) (xs (i + 2)) σ o).2.1) ((ho, .inl (ty 1, 1, .inr (.inl ((g_La_replace (xs (i + 1)) (xs (i + 2)) σ o).2.2)))) :: px)) hD
  refine lv_iload hx hb d_La_law_837 (lv_at hl 1 rfl) ?_
  refine lv_icmp_eq (tgt := 844) hx hb d_La_law_839 (by decide) (fun _ => ?_) (fun hc => absurd hA1 hc)
  refine lv_iload hx hb d_La_law_844 (lv_at hl 1 rfl) ?_
  refine lv_if_ne (tgt := 861) hx hb d_La_law_846 (by decide) (fun _ => ?_) (fun hc => ?_)
  · exact K _ _ _ (lv_sub hl [2, 3, 4, 5, 6] rfl) hP hD hS
  refine lv_aload_n hx hb d_La_law_849 rfl (lv_at hl 5 rfl) ?_
  refine lv_iconst (v := 0) hx hb d_La_law_850 (by decide) ?_
  refine va_lald hx hb hK hP 36 1 rfl rfl (vp_in_iff.mpr (by decide)) d_La_law_851 ?_
  refine lv_iload hx hb d_La_law_852 (lv_at hl 0 rfl) ?_
  refine lv_i2l hx hb d_La_law_854 rfl ?_
  refine W.lcmp hx hb d_La_law_855 ?_
  refine lv_if_eq (tgt := 861) hx hb d_La_law_856 (by decide) (fun _ => ?_) (fun hc2 => absurd ((lg_cmp_eq _ _).mpr (hA2 hc)) hc2)
  exact K _ _ _ (lv_sub hl [2, 3, 4, 5, 6] rfl) hP hD hS

set_option maxHeartbeats 4000000 in
set_option maxRecDepth 100000 in
theorem la_13 {p : Program} {l : Launch} {e : Env} {s : State} {m : MethodId} {args : Array Value} {below : List Frame} {meth : Method} {c : Code} {H : Heap} {locs : List Loc} {cells slots : Nat} {Q : State → Prop} {b L i ho : Nat} {xs : Nat → Int32} {D : va_G} {ty sa h g : Nat → Nat} {px : va_W} {σ τ : St} {o : Nat → Int64} {ls : Array Slot} (hlt : l.stackTraces = false) (C : lwC p s m args c b L xs D ty sa) (hi : i + 7 ≤ L) (hL : L < 2 ^ 31) (hcl : cells + 1 ≤ room_1.cells) (hsl : slots + 6 ≤ room_1.slots) (hl : lv_has ls 7 [(0, .ref b), (1, .ref (h 0)), (2, .ref (g 0)), (3, .ref ho), (4, .int (nI i))]) (hP : va_P D classes (Wc ty h σ ((ho, .inl (ty 1, 1, .inr (.inl o))) :: (px ++ Wm ty g (τ) []))) H) (hD : va_D (lA s) (Wc ty h σ ((ho, .inl (ty 1, 1, .inr (.inl o))) :: (px ++ Wm ty g (τ) [])))) (hS : va_S (lA s) s.heap H locs) (hk1 : k_CL_linear (xs (i + 1)) (xs (i + 2)) (xs (i + 3)) (xs (i + 4)) (xs (i + 5)) (xs (i + 6)) σ) (hE : ∀ E, (f_CL_linear (xs (i + 1)) (xs (i + 2)) (xs (i + 3)) (xs (i + 4)) (xs (i + 5)) (xs (i + 6)) σ).1 = .inr E → E = 1 ∨ E = 2 ∨ E = 3 ∨ E = 4) (hk2 : k_Mo_linear (xs (i + 1)) (xs (i + 2)) (xs (i + 3)) (xs (i + 4)) (xs (i + 5)) (xs (i + 6)) τ) (hA1 : (f_Mo_thrown ((f_Mo_linear (xs (i + 1)) (xs (i + 2)) (xs (i + 3)) (xs (i + 4)) (xs (i + 5)) (xs (i + 6)) (τ)).2)) = (g_La_linear (xs (i + 1)) (xs (i + 2)) (xs (i + 3)) (xs (i + 4)) (xs (i + 5)) (xs (i + 6)) σ o).1) (hA2 : (g_La_linear (xs (i + 1)) (xs (i + 2)) (xs (i + 3)) (xs (i + 4)) (xs (i + 5)) (xs (i + 6)) σ o).1 = 0 → (g_La_linear (xs (i + 1)) (xs (i + 2)) (xs (i + 3)) (xs (i + 4)) (xs (i + 5)) (xs (i + 6)) σ o).2.2 0 = (f_Mo_linear (xs (i + 1)) (xs (i + 2)) (xs (i + 3)) (xs (i + 4)) (xs (i + 5)) (xs (i + 6)) τ).1.toInt64)
    (K : ∀ (H : Heap) (locs : List Loc) (ls : Array Slot), lv_has ls 7 [(0, .ref b), (1, .ref (h 0)), (2, .ref (g 0)), (3, .ref ho), (4, .int (nI i))] → va_P D classes (Wc ty h ((g_La_linear (xs (i + 1)) (xs (i + 2)) (xs (i + 3)) (xs (i + 4)) (xs (i + 5)) (xs (i + 6)) σ o).2.1) ((ho, .inl (ty 1, 1, .inr (.inl ((g_La_linear (xs (i + 1)) (xs (i + 2)) (xs (i + 3)) (xs (i + 4)) (xs (i + 5)) (xs (i + 6)) σ o).2.2)))) :: (px ++ Wm ty g ((f_Mo_linear (xs (i + 1)) (xs (i + 2)) (xs (i + 3)) (xs (i + 4)) (xs (i + 5)) (xs (i + 6)) (τ)).2) []))) H → va_D (lA s) (Wc ty h ((g_La_linear (xs (i + 1)) (xs (i + 2)) (xs (i + 3)) (xs (i + 4)) (xs (i + 5)) (xs (i + 6)) σ o).2.1) ((ho, .inl (ty 1, 1, .inr (.inl ((g_La_linear (xs (i + 1)) (xs (i + 2)) (xs (i + 3)) (xs (i + 4)) (xs (i + 5)) (xs (i + 6)) σ o).2.2)))) :: (px ++ Wm ty g ((f_Mo_linear (xs (i + 1)) (xs (i + 2)) (xs (i + 3)) (xs (i + 4)) (xs (i + 5)) (xs (i + 6)) (τ)).2) []))) → va_S (lA s) s.heap H locs → W p l e room_1 s m args below meth c H locs (cells + 1) (slots + 6) Q (F0 m 979 ls [])) : W p l e room_1 s m args below meth c H locs cells slots Q (F0 m 864 ls []) := by
  obtain ⟨hx, hb, hml, hown, hg, hXs, hbl, hK, hN, hNC, hXK, hM⟩ := C
  have hcl0 : cells + 1 + 0 ≤ room_1.cells := hcl
  have hsl0 : slots + 6 + 0 ≤ room_1.slots := hsl
  refine lv_aload_n hx hb d_La_law_864 rfl (lv_at hl 1 rfl) ?_
  refine lv_aload_n hx hb d_La_law_865 rfl (lv_at hl 0 rfl) ?_
  refine lv_iload hx hb d_La_law_866 (lv_at hl 4 rfl) ?_
  refine lv_iconst (v := nI 1) hx hb d_La_law_868 (by decide) ?_
  refine lv_iadd hx hb d_La_law_869 ?_
  refine la_ld (k := 1) hx hb hXs hbl hS (by omega) (by omega) d_La_law_870 ?_
  refine lv_aload_n hx hb d_La_law_871 rfl (lv_at hl 0 rfl) ?_
  refine lv_iload hx hb d_La_law_872 (lv_at hl 4 rfl) ?_
  refine lv_iconst (v := nI 2) hx hb d_La_law_874 (by decide) ?_
  refine lv_iadd hx hb d_La_law_875 ?_
  refine la_ld (k := 2) hx hb hXs hbl hS (by omega) (by omega) d_La_law_876 ?_
  refine lv_aload_n hx hb d_La_law_877 rfl (lv_at hl 0 rfl) ?_
  refine lv_iload hx hb d_La_law_878 (lv_at hl 4 rfl) ?_
  refine lv_iconst (v := nI 3) hx hb d_La_law_880 (by decide) ?_
  refine lv_iadd hx hb d_La_law_881 ?_
  refine la_ld (k := 3) hx hb hXs hbl hS (by omega) (by omega) d_La_law_882 ?_
  refine lv_aload_n hx hb d_La_law_883 rfl (lv_at hl 0 rfl) ?_
  refine lv_iload hx hb d_La_law_884 (lv_at hl 4 rfl) ?_
  refine lv_iconst (v := nI 4) hx hb d_La_law_886 (by decide) ?_
  refine lv_iadd hx hb d_La_law_887 ?_
  refine la_ld (k := 4) hx hb hXs hbl hS (by omega) (by omega) d_La_law_888 ?_
  refine lv_aload_n hx hb d_La_law_889 rfl (lv_at hl 0 rfl) ?_
  refine lv_iload hx hb d_La_law_890 (lv_at hl 4 rfl) ?_
  refine lv_iconst (v := nI 5) hx hb d_La_law_892 (by decide) ?_
  refine lv_iadd hx hb d_La_law_893 ?_
  refine la_ld (k := 5) hx hb hXs hbl hS (by omega) (by omega) d_La_law_894 ?_
  refine lv_aload_n hx hb d_La_law_895 rfl (lv_at hl 0 rfl) ?_
  refine lv_iload hx hb d_La_law_896 (lv_at hl 4 rfl) ?_
  refine lv_bipush (v := nI 6) hx hb d_La_law_898 (by decide) ?_
  refine lv_iadd hx hb d_La_law_900 ?_
  refine la_ld (k := 6) hx hb hXs hbl hS (by omega) (by omega) d_La_law_901 ?_
  refine lv_aload_n hx hb d_La_law_902 rfl (lv_at hl 3 rfl) ?_
  refine x_callSW (As := [.ref (h 0), .int (xs (i + 1)), .int (xs (i + 2)), .int (xs (i + 3)), .int (xs (i + 4)), .int (xs (i + 5)), .int (xs (i + 6)), .ref ho]) (rest := []) (n := 8) (mc := 1) (ms := 6) ⟨hx, hb, hml, hown, hg⟩ (c_La_linear l hlt D ty h (px ++ Wm ty g τ []) sa ho o σ H.size (xs (i + 1)) (xs (i + 2)) (xs (i + 3)) (xs (i + 4)) (xs (i + 5)) (xs (i + 6)) hk1 hE) rfl rfl (Nat.le_of_ble_eq_true rfl) (Nat.le_of_ble_eq_true rfl) (pay_in hg (gw_C m_1070)) List.mem_cons_self (hg _ m_1070) (hg _ m_0) (hg _ m_1069) (hg _ m_1068) ⟨hd_La_linear.1, hd_La_linear.2.1⟩ (fun sig h9 => by have h8 := hd_La_linear.2.2; rw [h9] at h8; exact (Option.some.inj h8).symm) (zz_preL hM hN hNC hXK hS (lA_in s) hK hP hD) rfl hl.1 rfl (Nat.le_of_ble_eq_true rfl) d_La_law_903 ⟨hcl, hsl⟩ (fun q9 st9 t9 h9 => by cases h9.2.2) (fun v9 st9 t9 L9 h09 hal9 hR9 hL9 => ?_)
  obtain ⟨hF9, hP9, hv9⟩ := hR9
  cases hv9
  have hS := zz_xS hS h09 hF9 (zz_free hD hS (lA_in s)) hL9
  have hP := hP9
  have hD : va_D (lA s) (Wc ty h ((g_La_linear (xs (i + 1)) (xs (i + 2)) (xs (i + 3)) (xs (i + 4)) (xs (i + 5)) (xs (i + 6)) σ o).2.1) ((ho, .inl (ty 1, 1, .inr (.inl ((g_La_linear (xs (i + 1)) (xs (i + 2)) (xs (i + 3)) (xs (i + 4)) (xs (i + 5)) (xs (i + 6)) σ o).2.2)))) :: (px ++ Wm ty g (τ) []))) := zz_D hD rfl
  generalize t9.heap = H at hP hS ⊢
  refine W.eq (g2 := F0 m 906 ls (.int (g_La_linear (xs (i + 1)) (xs (i + 2)) (xs (i + 3)) (xs (i + 4)) (xs (i + 5)) (xs (i + 6)) σ o).1 :: [])) rfl ?_
  refine lv_istore (lv' := [(5, .int (g_La_linear (xs (i + 1)) (xs (i + 2)) (xs (i + 3)) (xs (i + 4)) (xs (i + 5)) (xs (i + 6)) σ o).1), (0, .ref b), (1, .ref (h 0)), (2, .ref (g 0)), (3, .ref ho), (4, .int (nI i))]) hx hb d_La_law_906 hl (by decide) rfl (fun ls hl => ?_)
  refine lv_aload_n hx hb d_La_law_908 rfl (lv_at hl 3 rfl) ?_
  refine lv_aload_n hx hb d_La_law_909 rfl (lv_at hl 1 rfl) ?_
  refine lv_iload hx hb d_La_law_910 (lv_at hl 5 rfl) ?_
  refine lv_iconst (v := nI 1) hx hb d_La_law_912 (by decide) ?_
  refine lv_iadd hx hb d_La_law_913 ?_
  refine la_ld (k := 1) hx hb hXs hbl hS (by omega) (by omega) d_La_law_914 ?_
  refine lv_aload_n hx hb d_La_law_915 rfl (lv_at hl 1 rfl) ?_
  refine lv_iload hx hb d_La_law_916 (lv_at hl 5 rfl) ?_
  refine lv_iconst (v := nI 2) hx hb d_La_law_918 (by decide) ?_
  refine lv_iadd hx hb d_La_law_919 ?_
  refine la_ld (k := 2) hx hb hXs hbl hS (by omega) (by omega) d_La_law_920 ?_
  refine lv_aload_n hx hb d_La_law_921 rfl (lv_at hl 1 rfl) ?_
  refine lv_iload hx hb d_La_law_922 (lv_at hl 5 rfl) ?_
  refine lv_iconst (v := nI 3) hx hb d_La_law_924 (by decide) ?_
  refine lv_iadd hx hb d_La_law_925 ?_
  refine la_ld (k := 3) hx hb hXs hbl hS (by omega) (by omega) d_La_law_926 ?_
  refine lv_aload_n hx hb d_La_law_927 rfl (lv_at hl 1 rfl) ?_
  refine lv_iload hx hb d_La_law_928 (lv_at hl 5 rfl) ?_
  refine lv_iconst (v := nI 4) hx hb d_La_law_930 (by decide) ?_
  refine lv_iadd hx hb d_La_law_931 ?_
  refine la_ld (k := 4) hx hb hXs hbl hS (by omega) (by omega) d_La_law_932 ?_
  refine lv_aload_n hx hb d_La_law_933 rfl (lv_at hl 1 rfl) ?_
  refine lv_iload hx hb d_La_law_934 (lv_at hl 5 rfl) ?_
  refine lv_iconst (v := nI 5) hx hb d_La_law_936 (by decide) ?_
  refine lv_iadd hx hb d_La_law_937 ?_
  refine la_ld (k := 5) hx hb hXs hbl hS (by omega) (by omega) d_La_law_938 ?_
  refine lv_aload_n hx hb d_La_law_939 rfl (lv_at hl 1 rfl) ?_
  refine lv_iload hx hb d_La_law_940 (lv_at hl 5 rfl) ?_
  refine lv_bipush (v := nI 6) hx hb d_La_law_942 (by decide) ?_
  refine lv_iadd hx hb d_La_law_944 ?_
  refine la_ld (k := 6) hx hb hXs hbl hS (by omega) (by omega) d_La_law_945 ?_
  have hP : va_P D classes (Wm ty g (τ) (Wc ty h ((g_La_linear (xs (i + 1)) (xs (i + 2)) (xs (i + 3)) (xs (i + 4)) (xs (i + 5)) (xs (i + 6)) σ o).2.1) ((ho, .inl (ty 1, 1, .inr (.inl ((g_La_linear (xs (i + 1)) (xs (i + 2)) (xs (i + 3)) (xs (i + 4)) (xs (i + 5)) (xs (i + 6)) σ o).2.2)))) :: px))) H := rotP (a := Wc ty h ((g_La_linear (xs (i + 1)) (xs (i + 2)) (xs (i + 3)) (xs (i + 4)) (xs (i + 5)) (xs (i + 6)) σ o).2.1) ((ho, .inl (ty 1, 1, .inr (.inl ((g_La_linear (xs (i + 1)) (xs (i + 2)) (xs (i + 3)) (xs (i + 4)) (xs (i + 5)) (xs (i + 6)) σ o).2.2)))) :: px)) (b := Wm ty g (τ) []) hP
  have hD : va_D (lA s) (Wm ty g (τ) (Wc ty h ((g_La_linear (xs (i + 1)) (xs (i + 2)) (xs (i + 3)) (xs (i + 4)) (xs (i + 5)) (xs (i + 6)) σ o).2.1) ((ho, .inl (ty 1, 1, .inr (.inl ((g_La_linear (xs (i + 1)) (xs (i + 2)) (xs (i + 3)) (xs (i + 4)) (xs (i + 5)) (xs (i + 6)) σ o).2.2)))) :: px))) := rotD (a := Wc ty h ((g_La_linear (xs (i + 1)) (xs (i + 2)) (xs (i + 3)) (xs (i + 4)) (xs (i + 5)) (xs (i + 6)) σ o).2.1) ((ho, .inl (ty 1, 1, .inr (.inl ((g_La_linear (xs (i + 1)) (xs (i + 2)) (xs (i + 3)) (xs (i + 4)) (xs (i + 5)) (xs (i + 6)) σ o).2.2)))) :: px)) (b := Wm ty g (τ) []) hD
  refine va_calli (va_runV (As := [.int (xs (i + 1)), .int (xs (i + 2)), .int (xs (i + 3)), .int (xs (i + 4)), .int (xs (i + 5)), .int (xs (i + 6))]) (rest := []) ⟨hx, hb, hml, hown, hg⟩ (c_Mo_linear l D ty g (Wc ty h ((g_La_linear (xs (i + 1)) (xs (i + 2)) (xs (i + 3)) (xs (i + 4)) (xs (i + 5)) (xs (i + 6)) σ o).2.1) ((ho, .inl (ty 1, 1, .inr (.inl ((g_La_linear (xs (i + 1)) (xs (i + 2)) (xs (i + 3)) (xs (i + 4)) (xs (i + 5)) (xs (i + 6)) σ o).2.2)))) :: px)) sa (τ) H.size (xs (i + 1)) (xs (i + 2)) (xs (i + 3)) (xs (i + 4)) (xs (i + 5)) (xs (i + 6)) hk2) ⟨callB_of 6 hg (gw_C m_1595) rfl rfl rfl (hg _ m_13) (hg _ m_1592) hd_Mo_linear ⟨Nat.le_of_ble_eq_true rfl, Nat.le_of_ble_eq_true rfl⟩, hg _ m_1593, hg _ m_1594⟩ (zz_preVW hM hS (lA_in s) hN hK hP hD 0 rfl rfl) rfl rfl hl.1 rfl (lv_room (Nat.le_of_ble_eq_true rfl)) d_La_law_946 ⟨hcl0, hsl0⟩) hS (fun q _ h9 => zz_free hD hS (lA_in s) q h9) (zz_free hD hS (lA_in s)) (fun r946 u946 t H locs ht hvm hp hP1 hz9 hk9 hS => ?_)
  rw [ht] at hP1
  obtain ⟨rfl, rfl⟩ : r946 = (f_Mo_linear (xs (i + 1)) (xs (i + 2)) (xs (i + 3)) (xs (i + 4)) (xs (i + 5)) (xs (i + 6)) (τ)).1 ∧ u946 = (f_Mo_linear (xs (i + 1)) (xs (i + 2)) (xs (i + 3)) (xs (i + 4)) (xs (i + 5)) (xs (i + 6)) (τ)).2 := by rw [← hp]; exact ⟨rfl, rfl⟩
  clear hp
  have hP : va_P D classes (Wm ty g ((f_Mo_linear (xs (i + 1)) (xs (i + 2)) (xs (i + 3)) (xs (i + 4)) (xs (i + 5)) (xs (i + 6)) (τ)).2) (Wc ty h ((g_La_linear (xs (i + 1)) (xs (i + 2)) (xs (i + 3)) (xs (i + 4)) (xs (i + 5)) (xs (i + 6)) σ o).2.1) ((ho, .inl (ty 1, 1, .inr (.inl ((g_La_linear (xs (i + 1)) (xs (i + 2)) (xs (i + 3)) (xs (i + 4)) (xs (i + 5)) (xs (i + 6)) σ o).2.2)))) :: px))) H := hP1
  have hD : va_D (lA s) (Wm ty g ((f_Mo_linear (xs (i + 1)) (xs (i + 2)) (xs (i + 3)) (xs (i + 4)) (xs (i + 5)) (xs (i + 6)) (τ)).2) (Wc ty h ((g_La_linear (xs (i + 1)) (xs (i + 2)) (xs (i + 3)) (xs (i + 4)) (xs (i + 5)) (xs (i + 6)) σ o).2.1) ((ho, .inl (ty 1, 1, .inr (.inl ((g_La_linear (xs (i + 1)) (xs (i + 2)) (xs (i + 3)) (xs (i + 4)) (xs (i + 5)) (xs (i + 6)) σ o).2.2)))) :: px))) := zz_D hD rfl
  have hP : va_P D classes (Wc ty h ((g_La_linear (xs (i + 1)) (xs (i + 2)) (xs (i + 3)) (xs (i + 4)) (xs (i + 5)) (xs (i + 6)) σ o).2.1) ((ho, .inl (ty 1, 1, .inr (.inl ((g_La_linear (xs (i + 1)) (xs (i + 2)) (xs (i + 3)) (xs (i + 4)) (xs (i + 5)) (xs (i + 6)) σ o).2.2)))) :: (px ++ Wm ty g ((f_Mo_linear (xs (i + 1)) (xs (i + 2)) (xs (i + 3)) (xs (i + 4)) (xs (i + 5)) (xs (i + 6)) (τ)).2) []))) H := rotP (a := Wm ty g ((f_Mo_linear (xs (i + 1)) (xs (i + 2)) (xs (i + 3)) (xs (i + 4)) (xs (i + 5)) (xs (i + 6)) (τ)).2) []) (b := Wc ty h ((g_La_linear (xs (i + 1)) (xs (i + 2)) (xs (i + 3)) (xs (i + 4)) (xs (i + 5)) (xs (i + 6)) σ o).2.1) ((ho, .inl (ty 1, 1, .inr (.inl ((g_La_linear (xs (i + 1)) (xs (i + 2)) (xs (i + 3)) (xs (i + 4)) (xs (i + 5)) (xs (i + 6)) σ o).2.2)))) :: px)) hP
  have hD : va_D (lA s) (Wc ty h ((g_La_linear (xs (i + 1)) (xs (i + 2)) (xs (i + 3)) (xs (i + 4)) (xs (i + 5)) (xs (i + 6)) σ o).2.1) ((ho, .inl (ty 1, 1, .inr (.inl ((g_La_linear (xs (i + 1)) (xs (i + 2)) (xs (i + 3)) (xs (i + 4)) (xs (i + 5)) (xs (i + 6)) σ o).2.2)))) :: (px ++ Wm ty g ((f_Mo_linear (xs (i + 1)) (xs (i + 2)) (xs (i + 3)) (xs (i + 4)) (xs (i + 5)) (xs (i + 6)) (τ)).2) []))) := rotD (a := Wm ty g ((f_Mo_linear (xs (i + 1)) (xs (i + 2)) (xs (i + 3)) (xs (i + 4)) (xs (i + 5)) (xs (i + 6)) (τ)).2) []) (b := Wc ty h ((g_La_linear (xs (i + 1)) (xs (i + 2)) (xs (i + 3)) (xs (i + 4)) (xs (i + 5)) (xs (i + 6)) σ o).2.1) ((ho, .inl (ty 1, 1, .inr (.inl ((g_La_linear (xs (i + 1)) (xs (i + 2)) (xs (i + 3)) (xs (i + 4)) (xs (i + 5)) (xs (i + 6)) σ o).2.2)))) :: px)) hD
  refine lv_istore (lv' := [(6, .int (f_Mo_linear (xs (i + 1)) (xs (i + 2)) (xs (i + 3)) (xs (i + 4)) (xs (i + 5)) (xs (i + 6)) (τ)).1), (5, .int (g_La_linear (xs (i + 1)) (xs (i + 2)) (xs (i + 3)) (xs (i + 4)) (xs (i + 5)) (xs (i + 6)) σ o).1), (0, .ref b), (1, .ref (h 0)), (2, .ref (g 0)), (3, .ref ho), (4, .int (nI i))]) hx hb d_La_law_949 hl (by decide) rfl (fun ls hl => ?_)
  refine lv_aload_n hx hb d_La_law_951 rfl (lv_at hl 4 rfl) ?_
  have hP : va_P D classes (Wm ty g ((f_Mo_linear (xs (i + 1)) (xs (i + 2)) (xs (i + 3)) (xs (i + 4)) (xs (i + 5)) (xs (i + 6)) (τ)).2) (Wc ty h ((g_La_linear (xs (i + 1)) (xs (i + 2)) (xs (i + 3)) (xs (i + 4)) (xs (i + 5)) (xs (i + 6)) σ o).2.1) ((ho, .inl (ty 1, 1, .inr (.inl ((g_La_linear (xs (i + 1)) (xs (i + 2)) (xs (i + 3)) (xs (i + 4)) (xs (i + 5)) (xs (i + 6)) σ o).2.2)))) :: px))) H := rotP (a := Wc ty h ((g_La_linear (xs (i + 1)) (xs (i + 2)) (xs (i + 3)) (xs (i + 4)) (xs (i + 5)) (xs (i + 6)) σ o).2.1) ((ho, .inl (ty 1, 1, .inr (.inl ((g_La_linear (xs (i + 1)) (xs (i + 2)) (xs (i + 3)) (xs (i + 4)) (xs (i + 5)) (xs (i + 6)) σ o).2.2)))) :: px)) (b := Wm ty g ((f_Mo_linear (xs (i + 1)) (xs (i + 2)) (xs (i + 3)) (xs (i + 4)) (xs (i + 5)) (xs (i + 6)) (τ)).2) []) hP
  have hD : va_D (lA s) (Wm ty g ((f_Mo_linear (xs (i + 1)) (xs (i + 2)) (xs (i + 3)) (xs (i + 4)) (xs (i + 5)) (xs (i + 6)) (τ)).2) (Wc ty h ((g_La_linear (xs (i + 1)) (xs (i + 2)) (xs (i + 3)) (xs (i + 4)) (xs (i + 5)) (xs (i + 6)) σ o).2.1) ((ho, .inl (ty 1, 1, .inr (.inl ((g_La_linear (xs (i + 1)) (xs (i + 2)) (xs (i + 3)) (xs (i + 4)) (xs (i + 5)) (xs (i + 6)) σ o).2.2)))) :: px))) := rotD (a := Wc ty h ((g_La_linear (xs (i + 1)) (xs (i + 2)) (xs (i + 3)) (xs (i + 4)) (xs (i + 5)) (xs (i + 6)) σ o).2.1) ((ho, .inl (ty 1, 1, .inr (.inl ((g_La_linear (xs (i + 1)) (xs (i + 2)) (xs (i + 3)) (xs (i + 4)) (xs (i + 5)) (xs (i + 6)) σ o).2.2)))) :: px)) (b := Wm ty g ((f_Mo_linear (xs (i + 1)) (xs (i + 2)) (xs (i + 3)) (xs (i + 4)) (xs (i + 5)) (xs (i + 6)) (τ)).2) []) hD
  refine zz_callV (va_runV (As := []) (rest := []) ⟨hx, hb, hml, hown, hg⟩ (c_Mo_thrown l D ty g (Wc ty h ((g_La_linear (xs (i + 1)) (xs (i + 2)) (xs (i + 3)) (xs (i + 4)) (xs (i + 5)) (xs (i + 6)) σ o).2.1) ((ho, .inl (ty 1, 1, .inr (.inl ((g_La_linear (xs (i + 1)) (xs (i + 2)) (xs (i + 3)) (xs (i + 4)) (xs (i + 5)) (xs (i + 6)) σ o).2.2)))) :: px)) sa ((f_Mo_linear (xs (i + 1)) (xs (i + 2)) (xs (i + 3)) (xs (i + 4)) (xs (i + 5)) (xs (i + 6)) (τ)).2) trivial) ⟨callB_of 0 hg (gw_C m_1416) rfl rfl rfl (hg _ m_13) (hg _ m_1413) hd_Mo_thrown ⟨Nat.le_of_ble_eq_true rfl, Nat.le_of_ble_eq_true rfl⟩, hg _ m_1414, hg _ m_1415⟩ (zz_preV (hM.at hS) hN hK hP 0 rfl rfl) rfl rfl hl.1 rfl (lv_room (Nat.le_of_ble_eq_true rfl)) d_La_law_952 ⟨hcl0, hsl0⟩) ?_
  have hP : va_P D classes (Wc ty h ((g_La_linear (xs (i + 1)) (xs (i + 2)) (xs (i + 3)) (xs (i + 4)) (xs (i + 5)) (xs (i + 6)) σ o).2.1) ((ho, .inl (ty 1, 1, .inr (.inl ((g_La_linear (xs (i + 1)) (xs (i + 2)) (xs (i + 3)) (xs (i + 4)) (xs (i + 5)) (xs (i + 6)) σ o).2.2)))) :: (px ++ Wm ty g ((f_Mo_linear (xs (i + 1)) (xs (i + 2)) (xs (i + 3)) (xs (i + 4)) (xs (i + 5)) (xs (i + 6)) (τ)).2) []))) H := rotP (a := Wm ty g ((f_Mo_linear (xs (i + 1)) (xs (i + 2)) (xs (i + 3)) (xs (i + 4)) (xs (i + 5)) (xs (i + 6)) (τ)).2) []) (b := Wc ty h ((g_La_linear (xs (i + 1)) (xs (i + 2)) (xs (i + 3)) (xs (i + 4)) (xs (i + 5)) (xs (i + 6)) σ o).2.1) ((ho, .inl (ty 1, 1, .inr (.inl ((g_La_linear (xs (i + 1)) (xs (i + 2)) (xs (i + 3)) (xs (i + 4)) (xs (i + 5)) (xs (i + 6)) σ o).2.2)))) :: px)) hP
  have hD : va_D (lA s) (Wc ty h ((g_La_linear (xs (i + 1)) (xs (i + 2)) (xs (i + 3)) (xs (i + 4)) (xs (i + 5)) (xs (i + 6)) σ o).2.1) ((ho, .inl (ty 1, 1, .inr (.inl ((g_La_linear (xs (i + 1)) (xs (i + 2)) (xs (i + 3)) (xs (i + 4)) (xs (i + 5)) (xs (i + 6)) σ o).2.2)))) :: (px ++ Wm ty g ((f_Mo_linear (xs (i + 1)) (xs (i + 2)) (xs (i + 3)) (xs (i + 4)) (xs (i + 5)) (xs (i + 6)) (τ)).2) []))) := rotD (a := Wm ty g ((f_Mo_linear (xs (i + 1)) (xs (i + 2)) (xs (i + 3)) (xs (i + 4)) (xs (i + 5)) (xs (i + 6)) (τ)).2) []) (b := Wc ty h ((g_La_linear (xs (i + 1)) (xs (i + 2)) (xs (i + 3)) (xs (i + 4)) (xs (i + 5)) (xs (i + 6)) σ o).2.1) ((ho, .inl (ty 1, 1, .inr (.inl ((g_La_linear (xs (i + 1)) (xs (i + 2)) (xs (i + 3)) (xs (i + 4)) (xs (i + 5)) (xs (i + 6)) σ o).2.2)))) :: px)) hD
  refine lv_iload hx hb d_La_law_955 (lv_at hl 1 rfl) ?_
  refine lv_icmp_eq (tgt := 962) hx hb d_La_law_957 (by decide) (fun _ => ?_) (fun hc => absurd hA1 hc)
  refine lv_iload hx hb d_La_law_962 (lv_at hl 1 rfl) ?_
  refine lv_if_ne (tgt := 979) hx hb d_La_law_964 (by decide) (fun _ => ?_) (fun hc => ?_)
  · exact K _ _ _ (lv_sub hl [2, 3, 4, 5, 6] rfl) hP hD hS
  refine lv_aload_n hx hb d_La_law_967 rfl (lv_at hl 5 rfl) ?_
  refine lv_iconst (v := 0) hx hb d_La_law_968 (by decide) ?_
  refine va_lald hx hb hK hP 36 1 rfl rfl (vp_in_iff.mpr (by decide)) d_La_law_969 ?_
  refine lv_iload hx hb d_La_law_970 (lv_at hl 0 rfl) ?_
  refine lv_i2l hx hb d_La_law_972 rfl ?_
  refine W.lcmp hx hb d_La_law_973 ?_
  refine lv_if_eq (tgt := 979) hx hb d_La_law_974 (by decide) (fun _ => ?_) (fun hc2 => absurd ((lg_cmp_eq _ _).mpr (hA2 hc)) hc2)
  exact K _ _ _ (lv_sub hl [2, 3, 4, 5, 6] rfl) hP hD hS

set_option maxHeartbeats 4000000 in
set_option maxRecDepth 100000 in
theorem la_14 {p : Program} {l : Launch} {e : Env} {s : State} {m : MethodId} {args : Array Value} {below : List Frame} {meth : Method} {c : Code} {H : Heap} {locs : List Loc} {cells slots : Nat} {Q : State → Prop} {b L i ho : Nat} {xs : Nat → Int32} {D : va_G} {ty sa h g : Nat → Nat} {px : va_W} {σ τ : St} {o : Nat → Int64} {ls : Array Slot} (hlt : l.stackTraces = false) (C : lwC p s m args c b L xs D ty sa) (hi : i + 7 ≤ L) (hL : L < 2 ^ 31) (hcl : cells + 1 ≤ room_1.cells) (hsl : slots + 6 ≤ room_1.slots) (hl : lv_has ls 7 [(0, .ref b), (1, .ref (h 0)), (2, .ref (g 0)), (3, .ref ho), (4, .int (nI i))]) (hP : va_P D classes (Wc ty h σ ((ho, .inl (ty 1, 1, .inr (.inl o))) :: (px ++ Wm ty g (τ) []))) H) (hD : va_D (lA s) (Wc ty h σ ((ho, .inl (ty 1, 1, .inr (.inl o))) :: (px ++ Wm ty g (τ) [])))) (hS : va_S (lA s) s.heap H locs) (hk1 : k_CL_instance (xs (i + 1)) (xs (i + 2)) σ) (hE : ∀ E, (f_CL_instance (xs (i + 1)) (xs (i + 2)) σ).1 = .inr E → E = 1 ∨ E = 2 ∨ E = 3 ∨ E = 4) (hk2 : k_Mo_instance (xs (i + 1)) (xs (i + 2)) τ) (hA1 : (f_Mo_thrown ((f_Mo_instance (xs (i + 1)) (xs (i + 2)) (τ)).2)) = (g_La_instance (xs (i + 1)) (xs (i + 2)) σ o).1) (hA2 : (g_La_instance (xs (i + 1)) (xs (i + 2)) σ o).1 = 0 → (g_La_instance (xs (i + 1)) (xs (i + 2)) σ o).2.2 0 = (f_Mo_instance (xs (i + 1)) (xs (i + 2)) τ).1.toInt64)
    (K : ∀ (H : Heap) (locs : List Loc) (ls : Array Slot), lv_has ls 7 [(0, .ref b), (1, .ref (h 0)), (2, .ref (g 0)), (3, .ref ho), (4, .int (nI i))] → va_P D classes (Wc ty h ((g_La_instance (xs (i + 1)) (xs (i + 2)) σ o).2.1) ((ho, .inl (ty 1, 1, .inr (.inl ((g_La_instance (xs (i + 1)) (xs (i + 2)) σ o).2.2)))) :: (px ++ Wm ty g ((f_Mo_instance (xs (i + 1)) (xs (i + 2)) (τ)).2) []))) H → va_D (lA s) (Wc ty h ((g_La_instance (xs (i + 1)) (xs (i + 2)) σ o).2.1) ((ho, .inl (ty 1, 1, .inr (.inl ((g_La_instance (xs (i + 1)) (xs (i + 2)) σ o).2.2)))) :: (px ++ Wm ty g ((f_Mo_instance (xs (i + 1)) (xs (i + 2)) (τ)).2) []))) → va_S (lA s) s.heap H locs → W p l e room_1 s m args below meth c H locs (cells + 1) (slots + 6) Q (F0 m 1047 ls [])) : W p l e room_1 s m args below meth c H locs cells slots Q (F0 m 982 ls []) := by
  obtain ⟨hx, hb, hml, hown, hg, hXs, hbl, hK, hN, hNC, hXK, hM⟩ := C
  have hcl0 : cells + 1 + 0 ≤ room_1.cells := hcl
  have hsl0 : slots + 6 + 0 ≤ room_1.slots := hsl
  refine lv_aload_n hx hb d_La_law_982 rfl (lv_at hl 1 rfl) ?_
  refine lv_aload_n hx hb d_La_law_983 rfl (lv_at hl 0 rfl) ?_
  refine lv_iload hx hb d_La_law_984 (lv_at hl 4 rfl) ?_
  refine lv_iconst (v := nI 1) hx hb d_La_law_986 (by decide) ?_
  refine lv_iadd hx hb d_La_law_987 ?_
  refine la_ld (k := 1) hx hb hXs hbl hS (by omega) (by omega) d_La_law_988 ?_
  refine lv_aload_n hx hb d_La_law_989 rfl (lv_at hl 0 rfl) ?_
  refine lv_iload hx hb d_La_law_990 (lv_at hl 4 rfl) ?_
  refine lv_iconst (v := nI 2) hx hb d_La_law_992 (by decide) ?_
  refine lv_iadd hx hb d_La_law_993 ?_
  refine la_ld (k := 2) hx hb hXs hbl hS (by omega) (by omega) d_La_law_994 ?_
  refine lv_aload_n hx hb d_La_law_995 rfl (lv_at hl 3 rfl) ?_
  refine x_callSW (As := [.ref (h 0), .int (xs (i + 1)), .int (xs (i + 2)), .ref ho]) (rest := []) (n := 4) (mc := 1) (ms := 6) ⟨hx, hb, hml, hown, hg⟩ (c_La_instance l hlt D ty h (px ++ Wm ty g τ []) sa ho o σ H.size (xs (i + 1)) (xs (i + 2)) hk1 hE) rfl rfl (Nat.le_of_ble_eq_true rfl) (Nat.le_of_ble_eq_true rfl) (pay_in hg (gw_C m_1174)) List.mem_cons_self (hg _ m_1174) (hg _ m_0) (hg _ m_1173) (hg _ m_1172) ⟨hd_La_instance.1, hd_La_instance.2.1⟩ (fun sig h9 => by have h8 := hd_La_instance.2.2; rw [h9] at h8; exact (Option.some.inj h8).symm) (zz_preL hM hN hNC hXK hS (lA_in s) hK hP hD) rfl hl.1 rfl (Nat.le_of_ble_eq_true rfl) d_La_law_996 ⟨hcl, hsl⟩ (fun q9 st9 t9 h9 => by cases h9.2.2) (fun v9 st9 t9 L9 h09 hal9 hR9 hL9 => ?_)
  obtain ⟨hF9, hP9, hv9⟩ := hR9
  cases hv9
  have hS := zz_xS hS h09 hF9 (zz_free hD hS (lA_in s)) hL9
  have hP := hP9
  have hD : va_D (lA s) (Wc ty h ((g_La_instance (xs (i + 1)) (xs (i + 2)) σ o).2.1) ((ho, .inl (ty 1, 1, .inr (.inl ((g_La_instance (xs (i + 1)) (xs (i + 2)) σ o).2.2)))) :: (px ++ Wm ty g (τ) []))) := zz_D hD rfl
  generalize t9.heap = H at hP hS ⊢
  refine W.eq (g2 := F0 m 999 ls (.int (g_La_instance (xs (i + 1)) (xs (i + 2)) σ o).1 :: [])) rfl ?_
  refine lv_istore (lv' := [(5, .int (g_La_instance (xs (i + 1)) (xs (i + 2)) σ o).1), (0, .ref b), (1, .ref (h 0)), (2, .ref (g 0)), (3, .ref ho), (4, .int (nI i))]) hx hb d_La_law_999 hl (by decide) rfl (fun ls hl => ?_)
  refine lv_aload_n hx hb d_La_law_1001 rfl (lv_at hl 3 rfl) ?_
  refine lv_aload_n hx hb d_La_law_1002 rfl (lv_at hl 1 rfl) ?_
  refine lv_iload hx hb d_La_law_1003 (lv_at hl 5 rfl) ?_
  refine lv_iconst (v := nI 1) hx hb d_La_law_1005 (by decide) ?_
  refine lv_iadd hx hb d_La_law_1006 ?_
  refine la_ld (k := 1) hx hb hXs hbl hS (by omega) (by omega) d_La_law_1007 ?_
  refine lv_aload_n hx hb d_La_law_1008 rfl (lv_at hl 1 rfl) ?_
  refine lv_iload hx hb d_La_law_1009 (lv_at hl 5 rfl) ?_
  refine lv_iconst (v := nI 2) hx hb d_La_law_1011 (by decide) ?_
  refine lv_iadd hx hb d_La_law_1012 ?_
  refine la_ld (k := 2) hx hb hXs hbl hS (by omega) (by omega) d_La_law_1013 ?_
  have hP : va_P D classes (Wm ty g (τ) (Wc ty h ((g_La_instance (xs (i + 1)) (xs (i + 2)) σ o).2.1) ((ho, .inl (ty 1, 1, .inr (.inl ((g_La_instance (xs (i + 1)) (xs (i + 2)) σ o).2.2)))) :: px))) H := rotP (a := Wc ty h ((g_La_instance (xs (i + 1)) (xs (i + 2)) σ o).2.1) ((ho, .inl (ty 1, 1, .inr (.inl ((g_La_instance (xs (i + 1)) (xs (i + 2)) σ o).2.2)))) :: px)) (b := Wm ty g (τ) []) hP
  have hD : va_D (lA s) (Wm ty g (τ) (Wc ty h ((g_La_instance (xs (i + 1)) (xs (i + 2)) σ o).2.1) ((ho, .inl (ty 1, 1, .inr (.inl ((g_La_instance (xs (i + 1)) (xs (i + 2)) σ o).2.2)))) :: px))) := rotD (a := Wc ty h ((g_La_instance (xs (i + 1)) (xs (i + 2)) σ o).2.1) ((ho, .inl (ty 1, 1, .inr (.inl ((g_La_instance (xs (i + 1)) (xs (i + 2)) σ o).2.2)))) :: px)) (b := Wm ty g (τ) []) hD
  refine va_calli (va_runV (As := [.int (xs (i + 1)), .int (xs (i + 2))]) (rest := []) ⟨hx, hb, hml, hown, hg⟩ (c_Mo_instance l D ty g (Wc ty h ((g_La_instance (xs (i + 1)) (xs (i + 2)) σ o).2.1) ((ho, .inl (ty 1, 1, .inr (.inl ((g_La_instance (xs (i + 1)) (xs (i + 2)) σ o).2.2)))) :: px)) sa (τ) H.size (xs (i + 1)) (xs (i + 2)) hk2) ⟨callB_of 2 hg (gw_C m_1583) rfl rfl rfl (hg _ m_13) (hg _ m_1580) hd_Mo_instance ⟨Nat.le_of_ble_eq_true rfl, Nat.le_of_ble_eq_true rfl⟩, hg _ m_1581, hg _ m_1582⟩ (zz_preVW hM hS (lA_in s) hN hK hP hD 0 rfl rfl) rfl rfl hl.1 rfl (lv_room (Nat.le_of_ble_eq_true rfl)) d_La_law_1014 ⟨hcl0, hsl0⟩) hS (fun q _ h9 => zz_free hD hS (lA_in s) q h9) (zz_free hD hS (lA_in s)) (fun r1014 u1014 t H locs ht hvm hp hP1 hz9 hk9 hS => ?_)
  rw [ht] at hP1
  obtain ⟨rfl, rfl⟩ : r1014 = (f_Mo_instance (xs (i + 1)) (xs (i + 2)) (τ)).1 ∧ u1014 = (f_Mo_instance (xs (i + 1)) (xs (i + 2)) (τ)).2 := by rw [← hp]; exact ⟨rfl, rfl⟩
  clear hp
  have hP : va_P D classes (Wm ty g ((f_Mo_instance (xs (i + 1)) (xs (i + 2)) (τ)).2) (Wc ty h ((g_La_instance (xs (i + 1)) (xs (i + 2)) σ o).2.1) ((ho, .inl (ty 1, 1, .inr (.inl ((g_La_instance (xs (i + 1)) (xs (i + 2)) σ o).2.2)))) :: px))) H := hP1
  have hD : va_D (lA s) (Wm ty g ((f_Mo_instance (xs (i + 1)) (xs (i + 2)) (τ)).2) (Wc ty h ((g_La_instance (xs (i + 1)) (xs (i + 2)) σ o).2.1) ((ho, .inl (ty 1, 1, .inr (.inl ((g_La_instance (xs (i + 1)) (xs (i + 2)) σ o).2.2)))) :: px))) := zz_D hD rfl
  have hP : va_P D classes (Wc ty h ((g_La_instance (xs (i + 1)) (xs (i + 2)) σ o).2.1) ((ho, .inl (ty 1, 1, .inr (.inl ((g_La_instance (xs (i + 1)) (xs (i + 2)) σ o).2.2)))) :: (px ++ Wm ty g ((f_Mo_instance (xs (i + 1)) (xs (i + 2)) (τ)).2) []))) H := rotP (a := Wm ty g ((f_Mo_instance (xs (i + 1)) (xs (i + 2)) (τ)).2) []) (b := Wc ty h ((g_La_instance (xs (i + 1)) (xs (i + 2)) σ o).2.1) ((ho, .inl (ty 1, 1, .inr (.inl ((g_La_instance (xs (i + 1)) (xs (i + 2)) σ o).2.2)))) :: px)) hP
  have hD : va_D (lA s) (Wc ty h ((g_La_instance (xs (i + 1)) (xs (i + 2)) σ o).2.1) ((ho, .inl (ty 1, 1, .inr (.inl ((g_La_instance (xs (i + 1)) (xs (i + 2)) σ o).2.2)))) :: (px ++ Wm ty g ((f_Mo_instance (xs (i + 1)) (xs (i + 2)) (τ)).2) []))) := rotD (a := Wm ty g ((f_Mo_instance (xs (i + 1)) (xs (i + 2)) (τ)).2) []) (b := Wc ty h ((g_La_instance (xs (i + 1)) (xs (i + 2)) σ o).2.1) ((ho, .inl (ty 1, 1, .inr (.inl ((g_La_instance (xs (i + 1)) (xs (i + 2)) σ o).2.2)))) :: px)) hD
  refine lv_istore (lv' := [(6, .int (f_Mo_instance (xs (i + 1)) (xs (i + 2)) (τ)).1), (5, .int (g_La_instance (xs (i + 1)) (xs (i + 2)) σ o).1), (0, .ref b), (1, .ref (h 0)), (2, .ref (g 0)), (3, .ref ho), (4, .int (nI i))]) hx hb d_La_law_1017 hl (by decide) rfl (fun ls hl => ?_)
  refine lv_aload_n hx hb d_La_law_1019 rfl (lv_at hl 4 rfl) ?_
  have hP : va_P D classes (Wm ty g ((f_Mo_instance (xs (i + 1)) (xs (i + 2)) (τ)).2) (Wc ty h ((g_La_instance (xs (i + 1)) (xs (i + 2)) σ o).2.1) ((ho, .inl (ty 1, 1, .inr (.inl ((g_La_instance (xs (i + 1)) (xs (i + 2)) σ o).2.2)))) :: px))) H := rotP (a := Wc ty h ((g_La_instance (xs (i + 1)) (xs (i + 2)) σ o).2.1) ((ho, .inl (ty 1, 1, .inr (.inl ((g_La_instance (xs (i + 1)) (xs (i + 2)) σ o).2.2)))) :: px)) (b := Wm ty g ((f_Mo_instance (xs (i + 1)) (xs (i + 2)) (τ)).2) []) hP
  have hD : va_D (lA s) (Wm ty g ((f_Mo_instance (xs (i + 1)) (xs (i + 2)) (τ)).2) (Wc ty h ((g_La_instance (xs (i + 1)) (xs (i + 2)) σ o).2.1) ((ho, .inl (ty 1, 1, .inr (.inl ((g_La_instance (xs (i + 1)) (xs (i + 2)) σ o).2.2)))) :: px))) := rotD (a := Wc ty h ((g_La_instance (xs (i + 1)) (xs (i + 2)) σ o).2.1) ((ho, .inl (ty 1, 1, .inr (.inl ((g_La_instance (xs (i + 1)) (xs (i + 2)) σ o).2.2)))) :: px)) (b := Wm ty g ((f_Mo_instance (xs (i + 1)) (xs (i + 2)) (τ)).2) []) hD
  refine zz_callV (va_runV (As := []) (rest := []) ⟨hx, hb, hml, hown, hg⟩ (c_Mo_thrown l D ty g (Wc ty h ((g_La_instance (xs (i + 1)) (xs (i + 2)) σ o).2.1) ((ho, .inl (ty 1, 1, .inr (.inl ((g_La_instance (xs (i + 1)) (xs (i + 2)) σ o).2.2)))) :: px)) sa ((f_Mo_instance (xs (i + 1)) (xs (i + 2)) (τ)).2) trivial) ⟨callB_of 0 hg (gw_C m_1416) rfl rfl rfl (hg _ m_13) (hg _ m_1413) hd_Mo_thrown ⟨Nat.le_of_ble_eq_true rfl, Nat.le_of_ble_eq_true rfl⟩, hg _ m_1414, hg _ m_1415⟩ (zz_preV (hM.at hS) hN hK hP 0 rfl rfl) rfl rfl hl.1 rfl (lv_room (Nat.le_of_ble_eq_true rfl)) d_La_law_1020 ⟨hcl0, hsl0⟩) ?_
  have hP : va_P D classes (Wc ty h ((g_La_instance (xs (i + 1)) (xs (i + 2)) σ o).2.1) ((ho, .inl (ty 1, 1, .inr (.inl ((g_La_instance (xs (i + 1)) (xs (i + 2)) σ o).2.2)))) :: (px ++ Wm ty g ((f_Mo_instance (xs (i + 1)) (xs (i + 2)) (τ)).2) []))) H := rotP (a := Wm ty g ((f_Mo_instance (xs (i + 1)) (xs (i + 2)) (τ)).2) []) (b := Wc ty h ((g_La_instance (xs (i + 1)) (xs (i + 2)) σ o).2.1) ((ho, .inl (ty 1, 1, .inr (.inl ((g_La_instance (xs (i + 1)) (xs (i + 2)) σ o).2.2)))) :: px)) hP
  have hD : va_D (lA s) (Wc ty h ((g_La_instance (xs (i + 1)) (xs (i + 2)) σ o).2.1) ((ho, .inl (ty 1, 1, .inr (.inl ((g_La_instance (xs (i + 1)) (xs (i + 2)) σ o).2.2)))) :: (px ++ Wm ty g ((f_Mo_instance (xs (i + 1)) (xs (i + 2)) (τ)).2) []))) := rotD (a := Wm ty g ((f_Mo_instance (xs (i + 1)) (xs (i + 2)) (τ)).2) []) (b := Wc ty h ((g_La_instance (xs (i + 1)) (xs (i + 2)) σ o).2.1) ((ho, .inl (ty 1, 1, .inr (.inl ((g_La_instance (xs (i + 1)) (xs (i + 2)) σ o).2.2)))) :: px)) hD
  refine lv_iload hx hb d_La_law_1023 (lv_at hl 1 rfl) ?_
  refine lv_icmp_eq (tgt := 1030) hx hb d_La_law_1025 (by decide) (fun _ => ?_) (fun hc => absurd hA1 hc)
  refine lv_iload hx hb d_La_law_1030 (lv_at hl 1 rfl) ?_
  refine lv_if_ne (tgt := 1047) hx hb d_La_law_1032 (by decide) (fun _ => ?_) (fun hc => ?_)
  · exact K _ _ _ (lv_sub hl [2, 3, 4, 5, 6] rfl) hP hD hS
  refine lv_aload_n hx hb d_La_law_1035 rfl (lv_at hl 5 rfl) ?_
  refine lv_iconst (v := 0) hx hb d_La_law_1036 (by decide) ?_
  refine va_lald hx hb hK hP 36 1 rfl rfl (vp_in_iff.mpr (by decide)) d_La_law_1037 ?_
  refine lv_iload hx hb d_La_law_1038 (lv_at hl 0 rfl) ?_
  refine lv_i2l hx hb d_La_law_1040 rfl ?_
  refine W.lcmp hx hb d_La_law_1041 ?_
  refine lv_if_eq (tgt := 1047) hx hb d_La_law_1042 (by decide) (fun _ => ?_) (fun hc2 => absurd ((lg_cmp_eq _ _).mpr (hA2 hc)) hc2)
  exact K _ _ _ (lv_sub hl [2, 3, 4, 5, 6] rfl) hP hD hS

set_option maxHeartbeats 4000000 in
set_option maxRecDepth 100000 in
theorem la_15 {p : Program} {l : Launch} {e : Env} {s : State} {m : MethodId} {args : Array Value} {below : List Frame} {meth : Method} {c : Code} {H : Heap} {locs : List Loc} {cells slots : Nat} {Q : State → Prop} {b L i ho : Nat} {xs : Nat → Int32} {D : va_G} {ty sa h g : Nat → Nat} {px : va_W} {σ τ : St} {o : Nat → Int64} {ls : Array Slot} (hlt : l.stackTraces = false) (C : lwC p s m args c b L xs D ty sa) (hi : i + 7 ≤ L) (hL : L < 2 ^ 31) (hcl : cells + 1 ≤ room_1.cells) (hsl : slots + 6 ≤ room_1.slots) (hl : lv_has ls 7 [(0, .ref b), (1, .ref (h 0)), (2, .ref (g 0)), (3, .ref ho), (4, .int (nI i))]) (hP : va_P D classes (Wc ty h σ ((ho, .inl (ty 1, 1, .inr (.inl o))) :: (px ++ Wm ty g (τ) []))) H) (hD : va_D (lA s) (Wc ty h σ ((ho, .inl (ty 1, 1, .inr (.inl o))) :: (px ++ Wm ty g (τ) [])))) (hS : va_S (lA s) s.heap H locs) (hk1 : k_CL_open σ) (hE : ∀ E, (f_CL_open σ).1 = .inr E → E = 4) (hk2 : k_Mo_open τ) (hA1 : (f_Mo_thrown ((f_Mo_open (τ)).2)) = (g_La_open σ o).1) (hA2 : (g_La_open σ o).1 = 0 → (g_La_open σ o).2.2 0 = (f_Mo_open τ).1.toInt64)
    (K : ∀ (H : Heap) (locs : List Loc) (ls : Array Slot), lv_has ls 7 [(0, .ref b), (1, .ref (h 0)), (2, .ref (g 0)), (3, .ref ho), (4, .int (nI i))] → va_P D classes (Wc ty h ((g_La_open σ o).2.1) ((ho, .inl (ty 1, 1, .inr (.inl ((g_La_open σ o).2.2)))) :: (px ++ Wm ty g ((f_Mo_open (τ)).2) []))) H → va_D (lA s) (Wc ty h ((g_La_open σ o).2.1) ((ho, .inl (ty 1, 1, .inr (.inl ((g_La_open σ o).2.2)))) :: (px ++ Wm ty g ((f_Mo_open (τ)).2) []))) → va_S (lA s) s.heap H locs → W p l e room_1 s m args below meth c H locs (cells + 1) (slots + 6) Q (F0 m 1091 ls [])) : W p l e room_1 s m args below meth c H locs cells slots Q (F0 m 1050 ls []) := by
  obtain ⟨hx, hb, hml, hown, hg, hXs, hbl, hK, hN, hNC, hXK, hM⟩ := C
  have hcl0 : cells + 1 + 0 ≤ room_1.cells := hcl
  have hsl0 : slots + 6 + 0 ≤ room_1.slots := hsl
  refine lv_aload_n hx hb d_La_law_1050 rfl (lv_at hl 1 rfl) ?_
  refine lv_aload_n hx hb d_La_law_1051 rfl (lv_at hl 3 rfl) ?_
  refine x_callSW (As := [.ref (h 0), .ref ho]) (rest := []) (n := 2) (mc := 1) (ms := 6) ⟨hx, hb, hml, hown, hg⟩ (c_La_open l hlt D ty h (px ++ Wm ty g τ []) sa ho o σ H.size hk1 hE) rfl rfl (Nat.le_of_ble_eq_true rfl) (Nat.le_of_ble_eq_true rfl) (pay_in hg (gw_C m_1211)) List.mem_cons_self (hg _ m_1211) (hg _ m_0) (hg _ m_1210) (hg _ m_1209) ⟨hd_La_open.1, hd_La_open.2.1⟩ (fun sig h9 => by have h8 := hd_La_open.2.2; rw [h9] at h8; exact (Option.some.inj h8).symm) (zz_preL hM hN hNC hXK hS (lA_in s) hK hP hD) rfl hl.1 rfl (Nat.le_of_ble_eq_true rfl) d_La_law_1052 ⟨hcl, hsl⟩ (fun q9 st9 t9 h9 => by cases h9.2.2) (fun v9 st9 t9 L9 h09 hal9 hR9 hL9 => ?_)
  obtain ⟨hF9, hP9, hv9⟩ := hR9
  cases hv9
  have hS := zz_xS hS h09 hF9 (zz_free hD hS (lA_in s)) hL9
  have hP := hP9
  have hD : va_D (lA s) (Wc ty h ((g_La_open σ o).2.1) ((ho, .inl (ty 1, 1, .inr (.inl ((g_La_open σ o).2.2)))) :: (px ++ Wm ty g (τ) []))) := zz_D hD rfl
  generalize t9.heap = H at hP hS ⊢
  refine W.eq (g2 := F0 m 1055 ls (.int (g_La_open σ o).1 :: [])) rfl ?_
  refine lv_istore (lv' := [(5, .int (g_La_open σ o).1), (0, .ref b), (1, .ref (h 0)), (2, .ref (g 0)), (3, .ref ho), (4, .int (nI i))]) hx hb d_La_law_1055 hl (by decide) rfl (fun ls hl => ?_)
  refine lv_aload_n hx hb d_La_law_1057 rfl (lv_at hl 3 rfl) ?_
  have hP : va_P D classes (Wm ty g (τ) (Wc ty h ((g_La_open σ o).2.1) ((ho, .inl (ty 1, 1, .inr (.inl ((g_La_open σ o).2.2)))) :: px))) H := rotP (a := Wc ty h ((g_La_open σ o).2.1) ((ho, .inl (ty 1, 1, .inr (.inl ((g_La_open σ o).2.2)))) :: px)) (b := Wm ty g (τ) []) hP
  have hD : va_D (lA s) (Wm ty g (τ) (Wc ty h ((g_La_open σ o).2.1) ((ho, .inl (ty 1, 1, .inr (.inl ((g_La_open σ o).2.2)))) :: px))) := rotD (a := Wc ty h ((g_La_open σ o).2.1) ((ho, .inl (ty 1, 1, .inr (.inl ((g_La_open σ o).2.2)))) :: px)) (b := Wm ty g (τ) []) hD
  refine va_calli (va_runV (As := []) (rest := []) ⟨hx, hb, hml, hown, hg⟩ (c_Mo_open l D ty g (Wc ty h ((g_La_open σ o).2.1) ((ho, .inl (ty 1, 1, .inr (.inl ((g_La_open σ o).2.2)))) :: px)) sa (τ) H.size hk2) ⟨callB_of 0 hg (gw_C m_1628) rfl rfl rfl (hg _ m_13) (hg _ m_1625) hd_Mo_open ⟨Nat.le_of_ble_eq_true rfl, Nat.le_of_ble_eq_true rfl⟩, hg _ m_1626, hg _ m_1627⟩ (zz_preVW hM hS (lA_in s) hN hK hP hD 0 rfl rfl) rfl rfl hl.1 rfl (lv_room (Nat.le_of_ble_eq_true rfl)) d_La_law_1058 ⟨hcl0, hsl0⟩) hS (fun q _ h9 => zz_free hD hS (lA_in s) q h9) (zz_free hD hS (lA_in s)) (fun r1058 u1058 t H locs ht hvm hp hP1 hz9 hk9 hS => ?_)
  rw [ht] at hP1
  obtain ⟨rfl, rfl⟩ : r1058 = (f_Mo_open (τ)).1 ∧ u1058 = (f_Mo_open (τ)).2 := by rw [← hp]; exact ⟨rfl, rfl⟩
  clear hp
  have hP : va_P D classes (Wm ty g ((f_Mo_open (τ)).2) (Wc ty h ((g_La_open σ o).2.1) ((ho, .inl (ty 1, 1, .inr (.inl ((g_La_open σ o).2.2)))) :: px))) H := hP1
  have hD : va_D (lA s) (Wm ty g ((f_Mo_open (τ)).2) (Wc ty h ((g_La_open σ o).2.1) ((ho, .inl (ty 1, 1, .inr (.inl ((g_La_open σ o).2.2)))) :: px))) := zz_D hD rfl
  have hP : va_P D classes (Wc ty h ((g_La_open σ o).2.1) ((ho, .inl (ty 1, 1, .inr (.inl ((g_La_open σ o).2.2)))) :: (px ++ Wm ty g ((f_Mo_open (τ)).2) []))) H := rotP (a := Wm ty g ((f_Mo_open (τ)).2) []) (b := Wc ty h ((g_La_open σ o).2.1) ((ho, .inl (ty 1, 1, .inr (.inl ((g_La_open σ o).2.2)))) :: px)) hP
  have hD : va_D (lA s) (Wc ty h ((g_La_open σ o).2.1) ((ho, .inl (ty 1, 1, .inr (.inl ((g_La_open σ o).2.2)))) :: (px ++ Wm ty g ((f_Mo_open (τ)).2) []))) := rotD (a := Wm ty g ((f_Mo_open (τ)).2) []) (b := Wc ty h ((g_La_open σ o).2.1) ((ho, .inl (ty 1, 1, .inr (.inl ((g_La_open σ o).2.2)))) :: px)) hD
  refine lv_istore (lv' := [(6, .int (f_Mo_open (τ)).1), (5, .int (g_La_open σ o).1), (0, .ref b), (1, .ref (h 0)), (2, .ref (g 0)), (3, .ref ho), (4, .int (nI i))]) hx hb d_La_law_1061 hl (by decide) rfl (fun ls hl => ?_)
  refine lv_aload_n hx hb d_La_law_1063 rfl (lv_at hl 4 rfl) ?_
  have hP : va_P D classes (Wm ty g ((f_Mo_open (τ)).2) (Wc ty h ((g_La_open σ o).2.1) ((ho, .inl (ty 1, 1, .inr (.inl ((g_La_open σ o).2.2)))) :: px))) H := rotP (a := Wc ty h ((g_La_open σ o).2.1) ((ho, .inl (ty 1, 1, .inr (.inl ((g_La_open σ o).2.2)))) :: px)) (b := Wm ty g ((f_Mo_open (τ)).2) []) hP
  have hD : va_D (lA s) (Wm ty g ((f_Mo_open (τ)).2) (Wc ty h ((g_La_open σ o).2.1) ((ho, .inl (ty 1, 1, .inr (.inl ((g_La_open σ o).2.2)))) :: px))) := rotD (a := Wc ty h ((g_La_open σ o).2.1) ((ho, .inl (ty 1, 1, .inr (.inl ((g_La_open σ o).2.2)))) :: px)) (b := Wm ty g ((f_Mo_open (τ)).2) []) hD
  refine zz_callV (va_runV (As := []) (rest := []) ⟨hx, hb, hml, hown, hg⟩ (c_Mo_thrown l D ty g (Wc ty h ((g_La_open σ o).2.1) ((ho, .inl (ty 1, 1, .inr (.inl ((g_La_open σ o).2.2)))) :: px)) sa ((f_Mo_open (τ)).2) trivial) ⟨callB_of 0 hg (gw_C m_1416) rfl rfl rfl (hg _ m_13) (hg _ m_1413) hd_Mo_thrown ⟨Nat.le_of_ble_eq_true rfl, Nat.le_of_ble_eq_true rfl⟩, hg _ m_1414, hg _ m_1415⟩ (zz_preV (hM.at hS) hN hK hP 0 rfl rfl) rfl rfl hl.1 rfl (lv_room (Nat.le_of_ble_eq_true rfl)) d_La_law_1064 ⟨hcl0, hsl0⟩) ?_
  have hP : va_P D classes (Wc ty h ((g_La_open σ o).2.1) ((ho, .inl (ty 1, 1, .inr (.inl ((g_La_open σ o).2.2)))) :: (px ++ Wm ty g ((f_Mo_open (τ)).2) []))) H := rotP (a := Wm ty g ((f_Mo_open (τ)).2) []) (b := Wc ty h ((g_La_open σ o).2.1) ((ho, .inl (ty 1, 1, .inr (.inl ((g_La_open σ o).2.2)))) :: px)) hP
  have hD : va_D (lA s) (Wc ty h ((g_La_open σ o).2.1) ((ho, .inl (ty 1, 1, .inr (.inl ((g_La_open σ o).2.2)))) :: (px ++ Wm ty g ((f_Mo_open (τ)).2) []))) := rotD (a := Wm ty g ((f_Mo_open (τ)).2) []) (b := Wc ty h ((g_La_open σ o).2.1) ((ho, .inl (ty 1, 1, .inr (.inl ((g_La_open σ o).2.2)))) :: px)) hD
  refine lv_iload hx hb d_La_law_1067 (lv_at hl 1 rfl) ?_
  refine lv_icmp_eq (tgt := 1074) hx hb d_La_law_1069 (by decide) (fun _ => ?_) (fun hc => absurd hA1 hc)
  refine lv_iload hx hb d_La_law_1074 (lv_at hl 1 rfl) ?_
  refine lv_if_ne (tgt := 1091) hx hb d_La_law_1076 (by decide) (fun _ => ?_) (fun hc => ?_)
  · exact K _ _ _ (lv_sub hl [2, 3, 4, 5, 6] rfl) hP hD hS
  refine lv_aload_n hx hb d_La_law_1079 rfl (lv_at hl 5 rfl) ?_
  refine lv_iconst (v := 0) hx hb d_La_law_1080 (by decide) ?_
  refine va_lald hx hb hK hP 36 1 rfl rfl (vp_in_iff.mpr (by decide)) d_La_law_1081 ?_
  refine lv_iload hx hb d_La_law_1082 (lv_at hl 0 rfl) ?_
  refine lv_i2l hx hb d_La_law_1084 rfl ?_
  refine W.lcmp hx hb d_La_law_1085 ?_
  refine lv_if_eq (tgt := 1091) hx hb d_La_law_1086 (by decide) (fun _ => ?_) (fun hc2 => absurd ((lg_cmp_eq _ _).mpr (hA2 hc)) hc2)
  exact K _ _ _ (lv_sub hl [2, 3, 4, 5, 6] rfl) hP hD hS

set_option maxHeartbeats 4000000 in
set_option maxRecDepth 100000 in
theorem la_16 {p : Program} {l : Launch} {e : Env} {s : State} {m : MethodId} {args : Array Value} {below : List Frame} {meth : Method} {c : Code} {H : Heap} {locs : List Loc} {cells slots : Nat} {Q : State → Prop} {b L i ho : Nat} {xs : Nat → Int32} {D : va_G} {ty sa h g : Nat → Nat} {px : va_W} {σ τ : St} {o : Nat → Int64} {ls : Array Slot} (hlt : l.stackTraces = false) (C : lwC p s m args c b L xs D ty sa) (hi : i + 7 ≤ L) (hL : L < 2 ^ 31) (hcl : cells + 1 ≤ room_1.cells) (hsl : slots + 6 ≤ room_1.slots) (hl : lv_has ls 7 [(0, .ref b), (1, .ref (h 0)), (2, .ref (g 0)), (3, .ref ho), (4, .int (nI i))]) (hP : va_P D classes (Wc ty h σ ((ho, .inl (ty 1, 1, .inr (.inl o))) :: (px ++ Wm ty g (τ) []))) H) (hD : va_D (lA s) (Wc ty h σ ((ho, .inl (ty 1, 1, .inr (.inl o))) :: (px ++ Wm ty g (τ) [])))) (hS : va_S (lA s) s.heap H locs) (hk1 : k_CL_close σ) (hE : ∀ E, (f_CL_close σ).1 = .inr E → E = 2 ∨ E = 3 ∨ E = 4) (hk2 : k_Mo_close τ) (hA1 : (f_Mo_thrown ((f_Mo_close (τ)).2)) = (g_La_close σ o).1) (hA2 : (g_La_close σ o).1 = 0 → (g_La_close σ o).2.2 0 = (f_Mo_close τ).1.toInt64)
    (K : ∀ (H : Heap) (locs : List Loc) (ls : Array Slot), lv_has ls 7 [(0, .ref b), (1, .ref (h 0)), (2, .ref (g 0)), (3, .ref ho), (4, .int (nI i))] → va_P D classes (Wc ty h ((g_La_close σ o).2.1) ((ho, .inl (ty 1, 1, .inr (.inl ((g_La_close σ o).2.2)))) :: (px ++ Wm ty g ((f_Mo_close (τ)).2) []))) H → va_D (lA s) (Wc ty h ((g_La_close σ o).2.1) ((ho, .inl (ty 1, 1, .inr (.inl ((g_La_close σ o).2.2)))) :: (px ++ Wm ty g ((f_Mo_close (τ)).2) []))) → va_S (lA s) s.heap H locs → W p l e room_1 s m args below meth c H locs (cells + 1) (slots + 6) Q (F0 m 1135 ls [])) : W p l e room_1 s m args below meth c H locs cells slots Q (F0 m 1094 ls []) := by
  obtain ⟨hx, hb, hml, hown, hg, hXs, hbl, hK, hN, hNC, hXK, hM⟩ := C
  have hcl0 : cells + 1 + 0 ≤ room_1.cells := hcl
  have hsl0 : slots + 6 + 0 ≤ room_1.slots := hsl
  refine lv_aload_n hx hb d_La_law_1094 rfl (lv_at hl 1 rfl) ?_
  refine lv_aload_n hx hb d_La_law_1095 rfl (lv_at hl 3 rfl) ?_
  refine x_callSW (As := [.ref (h 0), .ref ho]) (rest := []) (n := 2) (mc := 1) (ms := 6) ⟨hx, hb, hml, hown, hg⟩ (c_La_close l hlt D ty h (px ++ Wm ty g τ []) sa ho o σ H.size hk1 hE) rfl rfl (Nat.le_of_ble_eq_true rfl) (Nat.le_of_ble_eq_true rfl) (pay_in hg (gw_C m_1228)) List.mem_cons_self (hg _ m_1228) (hg _ m_0) (hg _ m_1227) (hg _ m_1226) ⟨hd_La_close.1, hd_La_close.2.1⟩ (fun sig h9 => by have h8 := hd_La_close.2.2; rw [h9] at h8; exact (Option.some.inj h8).symm) (zz_preL hM hN hNC hXK hS (lA_in s) hK hP hD) rfl hl.1 rfl (Nat.le_of_ble_eq_true rfl) d_La_law_1096 ⟨hcl, hsl⟩ (fun q9 st9 t9 h9 => by cases h9.2.2) (fun v9 st9 t9 L9 h09 hal9 hR9 hL9 => ?_)
  obtain ⟨hF9, hP9, hv9⟩ := hR9
  cases hv9
  have hS := zz_xS hS h09 hF9 (zz_free hD hS (lA_in s)) hL9
  have hP := hP9
  have hD : va_D (lA s) (Wc ty h ((g_La_close σ o).2.1) ((ho, .inl (ty 1, 1, .inr (.inl ((g_La_close σ o).2.2)))) :: (px ++ Wm ty g (τ) []))) := zz_D hD rfl
  generalize t9.heap = H at hP hS ⊢
  refine W.eq (g2 := F0 m 1099 ls (.int (g_La_close σ o).1 :: [])) rfl ?_
  refine lv_istore (lv' := [(5, .int (g_La_close σ o).1), (0, .ref b), (1, .ref (h 0)), (2, .ref (g 0)), (3, .ref ho), (4, .int (nI i))]) hx hb d_La_law_1099 hl (by decide) rfl (fun ls hl => ?_)
  refine lv_aload_n hx hb d_La_law_1101 rfl (lv_at hl 3 rfl) ?_
  have hP : va_P D classes (Wm ty g (τ) (Wc ty h ((g_La_close σ o).2.1) ((ho, .inl (ty 1, 1, .inr (.inl ((g_La_close σ o).2.2)))) :: px))) H := rotP (a := Wc ty h ((g_La_close σ o).2.1) ((ho, .inl (ty 1, 1, .inr (.inl ((g_La_close σ o).2.2)))) :: px)) (b := Wm ty g (τ) []) hP
  have hD : va_D (lA s) (Wm ty g (τ) (Wc ty h ((g_La_close σ o).2.1) ((ho, .inl (ty 1, 1, .inr (.inl ((g_La_close σ o).2.2)))) :: px))) := rotD (a := Wc ty h ((g_La_close σ o).2.1) ((ho, .inl (ty 1, 1, .inr (.inl ((g_La_close σ o).2.2)))) :: px)) (b := Wm ty g (τ) []) hD
  refine va_calli (va_runV (As := []) (rest := []) ⟨hx, hb, hml, hown, hg⟩ (c_Mo_close l D ty g (Wc ty h ((g_La_close σ o).2.1) ((ho, .inl (ty 1, 1, .inr (.inl ((g_La_close σ o).2.2)))) :: px)) sa (τ) H.size hk2) ⟨callB_of 0 hg (gw_C m_1636) rfl rfl rfl (hg _ m_13) (hg _ m_1633) hd_Mo_close ⟨Nat.le_of_ble_eq_true rfl, Nat.le_of_ble_eq_true rfl⟩, hg _ m_1634, hg _ m_1635⟩ (zz_preVW hM hS (lA_in s) hN hK hP hD 0 rfl rfl) rfl rfl hl.1 rfl (lv_room (Nat.le_of_ble_eq_true rfl)) d_La_law_1102 ⟨hcl0, hsl0⟩) hS (fun q _ h9 => zz_free hD hS (lA_in s) q h9) (zz_free hD hS (lA_in s)) (fun r1102 u1102 t H locs ht hvm hp hP1 hz9 hk9 hS => ?_)
  rw [ht] at hP1
  obtain ⟨rfl, rfl⟩ : r1102 = (f_Mo_close (τ)).1 ∧ u1102 = (f_Mo_close (τ)).2 := by rw [← hp]; exact ⟨rfl, rfl⟩
  clear hp
  have hP : va_P D classes (Wm ty g ((f_Mo_close (τ)).2) (Wc ty h ((g_La_close σ o).2.1) ((ho, .inl (ty 1, 1, .inr (.inl ((g_La_close σ o).2.2)))) :: px))) H := hP1
  have hD : va_D (lA s) (Wm ty g ((f_Mo_close (τ)).2) (Wc ty h ((g_La_close σ o).2.1) ((ho, .inl (ty 1, 1, .inr (.inl ((g_La_close σ o).2.2)))) :: px))) := zz_D hD rfl
  have hP : va_P D classes (Wc ty h ((g_La_close σ o).2.1) ((ho, .inl (ty 1, 1, .inr (.inl ((g_La_close σ o).2.2)))) :: (px ++ Wm ty g ((f_Mo_close (τ)).2) []))) H := rotP (a := Wm ty g ((f_Mo_close (τ)).2) []) (b := Wc ty h ((g_La_close σ o).2.1) ((ho, .inl (ty 1, 1, .inr (.inl ((g_La_close σ o).2.2)))) :: px)) hP
  have hD : va_D (lA s) (Wc ty h ((g_La_close σ o).2.1) ((ho, .inl (ty 1, 1, .inr (.inl ((g_La_close σ o).2.2)))) :: (px ++ Wm ty g ((f_Mo_close (τ)).2) []))) := rotD (a := Wm ty g ((f_Mo_close (τ)).2) []) (b := Wc ty h ((g_La_close σ o).2.1) ((ho, .inl (ty 1, 1, .inr (.inl ((g_La_close σ o).2.2)))) :: px)) hD
  refine lv_istore (lv' := [(6, .int (f_Mo_close (τ)).1), (5, .int (g_La_close σ o).1), (0, .ref b), (1, .ref (h 0)), (2, .ref (g 0)), (3, .ref ho), (4, .int (nI i))]) hx hb d_La_law_1105 hl (by decide) rfl (fun ls hl => ?_)
  refine lv_aload_n hx hb d_La_law_1107 rfl (lv_at hl 4 rfl) ?_
  have hP : va_P D classes (Wm ty g ((f_Mo_close (τ)).2) (Wc ty h ((g_La_close σ o).2.1) ((ho, .inl (ty 1, 1, .inr (.inl ((g_La_close σ o).2.2)))) :: px))) H := rotP (a := Wc ty h ((g_La_close σ o).2.1) ((ho, .inl (ty 1, 1, .inr (.inl ((g_La_close σ o).2.2)))) :: px)) (b := Wm ty g ((f_Mo_close (τ)).2) []) hP
  have hD : va_D (lA s) (Wm ty g ((f_Mo_close (τ)).2) (Wc ty h ((g_La_close σ o).2.1) ((ho, .inl (ty 1, 1, .inr (.inl ((g_La_close σ o).2.2)))) :: px))) := rotD (a := Wc ty h ((g_La_close σ o).2.1) ((ho, .inl (ty 1, 1, .inr (.inl ((g_La_close σ o).2.2)))) :: px)) (b := Wm ty g ((f_Mo_close (τ)).2) []) hD
  refine zz_callV (va_runV (As := []) (rest := []) ⟨hx, hb, hml, hown, hg⟩ (c_Mo_thrown l D ty g (Wc ty h ((g_La_close σ o).2.1) ((ho, .inl (ty 1, 1, .inr (.inl ((g_La_close σ o).2.2)))) :: px)) sa ((f_Mo_close (τ)).2) trivial) ⟨callB_of 0 hg (gw_C m_1416) rfl rfl rfl (hg _ m_13) (hg _ m_1413) hd_Mo_thrown ⟨Nat.le_of_ble_eq_true rfl, Nat.le_of_ble_eq_true rfl⟩, hg _ m_1414, hg _ m_1415⟩ (zz_preV (hM.at hS) hN hK hP 0 rfl rfl) rfl rfl hl.1 rfl (lv_room (Nat.le_of_ble_eq_true rfl)) d_La_law_1108 ⟨hcl0, hsl0⟩) ?_
  have hP : va_P D classes (Wc ty h ((g_La_close σ o).2.1) ((ho, .inl (ty 1, 1, .inr (.inl ((g_La_close σ o).2.2)))) :: (px ++ Wm ty g ((f_Mo_close (τ)).2) []))) H := rotP (a := Wm ty g ((f_Mo_close (τ)).2) []) (b := Wc ty h ((g_La_close σ o).2.1) ((ho, .inl (ty 1, 1, .inr (.inl ((g_La_close σ o).2.2)))) :: px)) hP
  have hD : va_D (lA s) (Wc ty h ((g_La_close σ o).2.1) ((ho, .inl (ty 1, 1, .inr (.inl ((g_La_close σ o).2.2)))) :: (px ++ Wm ty g ((f_Mo_close (τ)).2) []))) := rotD (a := Wm ty g ((f_Mo_close (τ)).2) []) (b := Wc ty h ((g_La_close σ o).2.1) ((ho, .inl (ty 1, 1, .inr (.inl ((g_La_close σ o).2.2)))) :: px)) hD
  refine lv_iload hx hb d_La_law_1111 (lv_at hl 1 rfl) ?_
  refine lv_icmp_eq (tgt := 1118) hx hb d_La_law_1113 (by decide) (fun _ => ?_) (fun hc => absurd hA1 hc)
  refine lv_iload hx hb d_La_law_1118 (lv_at hl 1 rfl) ?_
  refine lv_if_ne (tgt := 1135) hx hb d_La_law_1120 (by decide) (fun _ => ?_) (fun hc => ?_)
  · exact K _ _ _ (lv_sub hl [2, 3, 4, 5, 6] rfl) hP hD hS
  refine lv_aload_n hx hb d_La_law_1123 rfl (lv_at hl 5 rfl) ?_
  refine lv_iconst (v := 0) hx hb d_La_law_1124 (by decide) ?_
  refine va_lald hx hb hK hP 36 1 rfl rfl (vp_in_iff.mpr (by decide)) d_La_law_1125 ?_
  refine lv_iload hx hb d_La_law_1126 (lv_at hl 0 rfl) ?_
  refine lv_i2l hx hb d_La_law_1128 rfl ?_
  refine W.lcmp hx hb d_La_law_1129 ?_
  refine lv_if_eq (tgt := 1135) hx hb d_La_law_1130 (by decide) (fun _ => ?_) (fun hc2 => absurd ((lg_cmp_eq _ _).mpr (hA2 hc)) hc2)
  exact K _ _ _ (lv_sub hl [2, 3, 4, 5, 6] rfl) hP hD hS

set_option maxHeartbeats 4000000 in
set_option maxRecDepth 100000 in
theorem la_17 {p : Program} {l : Launch} {e : Env} {s : State} {m : MethodId} {args : Array Value} {below : List Frame} {meth : Method} {c : Code} {H : Heap} {locs : List Loc} {cells slots : Nat} {Q : State → Prop} {b L i ho : Nat} {xs : Nat → Int32} {D : va_G} {ty sa h g : Nat → Nat} {px : va_W} {σ τ : St} {o : Nat → Int64} {ls : Array Slot} (hlt : l.stackTraces = false) (C : lwC p s m args c b L xs D ty sa) (hi : i + 7 ≤ L) (hL : L < 2 ^ 31) (hcl0 : cells + 0 ≤ room_1.cells) (hsl0 : slots + 0 ≤ room_1.slots) (hl : lv_has ls 7 [(0, .ref b), (1, .ref (h 0)), (2, .ref (g 0)), (3, .ref ho), (4, .int (nI i))]) (hP : va_P D classes (Wc ty h σ ((ho, .inl (ty 1, 1, .inr (.inl o))) :: (px ++ Wm ty g (τ) []))) H) (hD : va_D (lA s) (Wc ty h σ ((ho, .inl (ty 1, 1, .inr (.inl o))) :: (px ++ Wm ty g (τ) [])))) (hS : va_S (lA s) s.heap H locs) (hk1 : k_CL_clause (xs (i + 1)) (xs (i + 2)) σ) (hk2 : k_Mo_clause (xs (i + 1)) (xs (i + 2)) τ) (hA1 : (f_CL_clause (xs (i + 1)) (xs (i + 2)) σ) = (f_Mo_clause (xs (i + 1)) (xs (i + 2)) (τ)).1)
    (K : ∀ (H : Heap) (locs : List Loc) (ls : Array Slot), lv_has ls 7 [(0, .ref b), (1, .ref (h 0)), (2, .ref (g 0)), (3, .ref ho), (4, .int (nI i))] → va_P D classes (Wc ty h σ ((ho, .inl (ty 1, 1, .inr (.inl o))) :: (px ++ Wm ty g ((f_Mo_clause (xs (i + 1)) (xs (i + 2)) (τ)).2) []))) H → va_D (lA s) (Wc ty h σ ((ho, .inl (ty 1, 1, .inr (.inl o))) :: (px ++ Wm ty g ((f_Mo_clause (xs (i + 1)) (xs (i + 2)) (τ)).2) []))) → va_S (lA s) s.heap H locs → W p l e room_1 s m args below meth c H locs cells slots Q (F0 m 1287 ls [])) : W p l e room_1 s m args below meth c H locs cells slots Q (F0 m 1138 ls []) := by
  obtain ⟨hx, hb, hml, hown, hg, hXs, hbl, hK, hN, hNC, hXK, hM⟩ := C
  refine lv_aload_n hx hb d_La_law_1138 rfl (lv_at hl 1 rfl) ?_
  refine lv_aload_n hx hb d_La_law_1139 rfl (lv_at hl 0 rfl) ?_
  refine lv_iload hx hb d_La_law_1140 (lv_at hl 4 rfl) ?_
  refine lv_iconst (v := nI 1) hx hb d_La_law_1142 (by decide) ?_
  refine lv_iadd hx hb d_La_law_1143 ?_
  refine la_ld (k := 1) hx hb hXs hbl hS (by omega) (by omega) d_La_law_1144 ?_
  refine lv_aload_n hx hb d_La_law_1145 rfl (lv_at hl 0 rfl) ?_
  refine lv_iload hx hb d_La_law_1146 (lv_at hl 4 rfl) ?_
  refine lv_iconst (v := nI 2) hx hb d_La_law_1148 (by decide) ?_
  refine lv_iadd hx hb d_La_law_1149 ?_
  refine la_ld (k := 2) hx hb hXs hbl hS (by omega) (by omega) d_La_law_1150 ?_
  refine zz_callV (va_runV (As := [.int (xs (i + 1)), .int (xs (i + 2))]) (rest := []) ⟨hx, hb, hml, hown, hg⟩ (c_CL_clause l D ty h ((ho, .inl (ty 1, 1, .inr (.inl o))) :: (px ++ Wm ty g (τ) [])) sa σ (xs (i + 1)) (xs (i + 2)) hk1) ⟨callB_of 2 hg (gw_C m_372) rfl rfl rfl (hg _ m_1) (hg _ m_369) hd_CL_clause ⟨Nat.le_of_ble_eq_true rfl, Nat.le_of_ble_eq_true rfl⟩, hg _ m_370, hg _ m_371⟩ (zz_preV (hM.at hS) hN hK hP 0 rfl rfl) rfl rfl hl.1 rfl (lv_room (Nat.le_of_ble_eq_true rfl)) d_La_law_1151 ⟨hcl0, hsl0⟩) ?_
  refine lv_aload_n hx hb d_La_law_1154 rfl (lv_at hl 2 rfl) ?_
  refine lv_aload_n hx hb d_La_law_1155 rfl (lv_at hl 0 rfl) ?_
  refine lv_iload hx hb d_La_law_1156 (lv_at hl 4 rfl) ?_
  refine lv_iconst (v := nI 1) hx hb d_La_law_1158 (by decide) ?_
  refine lv_iadd hx hb d_La_law_1159 ?_
  refine la_ld (k := 1) hx hb hXs hbl hS (by omega) (by omega) d_La_law_1160 ?_
  refine lv_aload_n hx hb d_La_law_1161 rfl (lv_at hl 0 rfl) ?_
  refine lv_iload hx hb d_La_law_1162 (lv_at hl 4 rfl) ?_
  refine lv_iconst (v := nI 2) hx hb d_La_law_1164 (by decide) ?_
  refine lv_iadd hx hb d_La_law_1165 ?_
  refine la_ld (k := 2) hx hb hXs hbl hS (by omega) (by omega) d_La_law_1166 ?_
  have hP : va_P D classes (Wm ty g (τ) (Wc ty h σ ((ho, .inl (ty 1, 1, .inr (.inl o))) :: px))) H := rotP (a := Wc ty h σ ((ho, .inl (ty 1, 1, .inr (.inl o))) :: px)) (b := Wm ty g (τ) []) hP
  have hD : va_D (lA s) (Wm ty g (τ) (Wc ty h σ ((ho, .inl (ty 1, 1, .inr (.inl o))) :: px))) := rotD (a := Wc ty h σ ((ho, .inl (ty 1, 1, .inr (.inl o))) :: px)) (b := Wm ty g (τ) []) hD
  refine va_calli (va_runV (As := [.int (xs (i + 1)), .int (xs (i + 2))]) (rest := [.int (f_CL_clause (xs (i + 1)) (xs (i + 2)) σ)]) ⟨hx, hb, hml, hown, hg⟩ (c_Mo_clause l D ty g (Wc ty h σ ((ho, .inl (ty 1, 1, .inr (.inl o))) :: px)) sa (τ) H.size (xs (i + 1)) (xs (i + 2)) hk2) ⟨callB_of 2 hg (gw_C m_1640) rfl rfl rfl (hg _ m_13) (hg _ m_1637) hd_Mo_clause ⟨Nat.le_of_ble_eq_true rfl, Nat.le_of_ble_eq_true rfl⟩, hg _ m_1638, hg _ m_1639⟩ (zz_preVW hM hS (lA_in s) hN hK hP hD 0 rfl rfl) rfl rfl hl.1 rfl (lv_room (Nat.le_of_ble_eq_true rfl)) d_La_law_1167 ⟨hcl0, hsl0⟩) hS (fun q _ h9 => zz_free hD hS (lA_in s) q h9) (zz_free hD hS (lA_in s)) (fun r1167 u1167 t H locs ht hvm hp hP1 hz9 hk9 hS => ?_)
  rw [ht] at hP1
  obtain ⟨rfl, rfl⟩ : r1167 = (f_Mo_clause (xs (i + 1)) (xs (i + 2)) (τ)).1 ∧ u1167 = (f_Mo_clause (xs (i + 1)) (xs (i + 2)) (τ)).2 := by rw [← hp]; exact ⟨rfl, rfl⟩
  clear hp
  have hP : va_P D classes (Wm ty g ((f_Mo_clause (xs (i + 1)) (xs (i + 2)) (τ)).2) (Wc ty h σ ((ho, .inl (ty 1, 1, .inr (.inl o))) :: px))) H := hP1
  have hD : va_D (lA s) (Wm ty g ((f_Mo_clause (xs (i + 1)) (xs (i + 2)) (τ)).2) (Wc ty h σ ((ho, .inl (ty 1, 1, .inr (.inl o))) :: px))) := zz_D hD rfl
  have hP : va_P D classes (Wc ty h σ ((ho, .inl (ty 1, 1, .inr (.inl o))) :: (px ++ Wm ty g ((f_Mo_clause (xs (i + 1)) (xs (i + 2)) (τ)).2) []))) H := rotP (a := Wm ty g ((f_Mo_clause (xs (i + 1)) (xs (i + 2)) (τ)).2) []) (b := Wc ty h σ ((ho, .inl (ty 1, 1, .inr (.inl o))) :: px)) hP
  have hD : va_D (lA s) (Wc ty h σ ((ho, .inl (ty 1, 1, .inr (.inl o))) :: (px ++ Wm ty g ((f_Mo_clause (xs (i + 1)) (xs (i + 2)) (τ)).2) []))) := rotD (a := Wm ty g ((f_Mo_clause (xs (i + 1)) (xs (i + 2)) (τ)).2) []) (b := Wc ty h σ ((ho, .inl (ty 1, 1, .inr (.inl o))) :: px)) hD
  refine lv_icmp_eq (tgt := 1287) hx hb d_La_law_1170 (by decide) (fun _ => ?_) (fun hc => absurd hA1 hc)
  exact K _ _ _ (lv_sub hl [0, 1, 2, 3, 4] rfl) hP hD hS

set_option maxHeartbeats 4000000 in
set_option maxRecDepth 100000 in
theorem la_18 {p : Program} {l : Launch} {e : Env} {s : State} {m : MethodId} {args : Array Value} {below : List Frame} {meth : Method} {c : Code} {H : Heap} {locs : List Loc} {cells slots : Nat} {Q : State → Prop} {b L i ho : Nat} {xs : Nat → Int32} {D : va_G} {ty sa h g : Nat → Nat} {px : va_W} {σ τ : St} {o : Nat → Int64} {ls : Array Slot} (hlt : l.stackTraces = false) (C : lwC p s m args c b L xs D ty sa) (hi : i + 7 ≤ L) (hL : L < 2 ^ 31) (hcl0 : cells + 0 ≤ room_1.cells) (hsl0 : slots + 0 ≤ room_1.slots) (hl : lv_has ls 7 [(0, .ref b), (1, .ref (h 0)), (2, .ref (g 0)), (3, .ref ho), (4, .int (nI i))]) (hP : va_P D classes (Wc ty h σ ((ho, .inl (ty 1, 1, .inr (.inl o))) :: (px ++ Wm ty g (τ) []))) H) (hD : va_D (lA s) (Wc ty h σ ((ho, .inl (ty 1, 1, .inr (.inl o))) :: (px ++ Wm ty g (τ) [])))) (hS : va_S (lA s) s.heap H locs) (hk1 : k_CL_scope (xs (i + 1)) σ) (hk2 : k_Mo_scope (xs (i + 1)) τ) (hA1 : (f_CL_scope (xs (i + 1)) σ) = (f_Mo_scope (xs (i + 1)) (τ)).1)
    (K : ∀ (H : Heap) (locs : List Loc) (ls : Array Slot), lv_has ls 7 [(0, .ref b), (1, .ref (h 0)), (2, .ref (g 0)), (3, .ref ho), (4, .int (nI i))] → va_P D classes (Wc ty h σ ((ho, .inl (ty 1, 1, .inr (.inl o))) :: (px ++ Wm ty g ((f_Mo_scope (xs (i + 1)) (τ)).2) []))) H → va_D (lA s) (Wc ty h σ ((ho, .inl (ty 1, 1, .inr (.inl o))) :: (px ++ Wm ty g ((f_Mo_scope (xs (i + 1)) (τ)).2) []))) → va_S (lA s) s.heap H locs → W p l e room_1 s m args below meth c H locs cells slots Q (F0 m 1287 ls [])) : W p l e room_1 s m args below meth c H locs cells slots Q (F0 m 1175 ls []) := by
  obtain ⟨hx, hb, hml, hown, hg, hXs, hbl, hK, hN, hNC, hXK, hM⟩ := C
  refine lv_aload_n hx hb d_La_law_1175 rfl (lv_at hl 1 rfl) ?_
  refine lv_aload_n hx hb d_La_law_1176 rfl (lv_at hl 0 rfl) ?_
  refine lv_iload hx hb d_La_law_1177 (lv_at hl 4 rfl) ?_
  refine lv_iconst (v := nI 1) hx hb d_La_law_1179 (by decide) ?_
  refine lv_iadd hx hb d_La_law_1180 ?_
  refine la_ld (k := 1) hx hb hXs hbl hS (by omega) (by omega) d_La_law_1181 ?_
  refine zz_callV (va_runV (As := [.int (xs (i + 1))]) (rest := []) ⟨hx, hb, hml, hown, hg⟩ (c_CL_scope l D ty h ((ho, .inl (ty 1, 1, .inr (.inl o))) :: (px ++ Wm ty g (τ) [])) sa σ (xs (i + 1)) hk1) ⟨callB_of 1 hg (gw_C m_389) rfl rfl rfl (hg _ m_1) (hg _ m_386) hd_CL_scope ⟨Nat.le_of_ble_eq_true rfl, Nat.le_of_ble_eq_true rfl⟩, hg _ m_387, hg _ m_388⟩ (zz_preV (hM.at hS) hN hK hP 0 rfl rfl) rfl rfl hl.1 rfl (lv_room (Nat.le_of_ble_eq_true rfl)) d_La_law_1182 ⟨hcl0, hsl0⟩) ?_
  refine lv_aload_n hx hb d_La_law_1185 rfl (lv_at hl 2 rfl) ?_
  refine lv_aload_n hx hb d_La_law_1186 rfl (lv_at hl 0 rfl) ?_
  refine lv_iload hx hb d_La_law_1187 (lv_at hl 4 rfl) ?_
  refine lv_iconst (v := nI 1) hx hb d_La_law_1189 (by decide) ?_
  refine lv_iadd hx hb d_La_law_1190 ?_
  refine la_ld (k := 1) hx hb hXs hbl hS (by omega) (by omega) d_La_law_1191 ?_
  have hP : va_P D classes (Wm ty g (τ) (Wc ty h σ ((ho, .inl (ty 1, 1, .inr (.inl o))) :: px))) H := rotP (a := Wc ty h σ ((ho, .inl (ty 1, 1, .inr (.inl o))) :: px)) (b := Wm ty g (τ) []) hP
  have hD : va_D (lA s) (Wm ty g (τ) (Wc ty h σ ((ho, .inl (ty 1, 1, .inr (.inl o))) :: px))) := rotD (a := Wc ty h σ ((ho, .inl (ty 1, 1, .inr (.inl o))) :: px)) (b := Wm ty g (τ) []) hD
  refine va_calli (va_runV (As := [.int (xs (i + 1))]) (rest := [.int (f_CL_scope (xs (i + 1)) σ)]) ⟨hx, hb, hml, hown, hg⟩ (c_Mo_scope l D ty g (Wc ty h σ ((ho, .inl (ty 1, 1, .inr (.inl o))) :: px)) sa (τ) H.size (xs (i + 1)) hk2) ⟨callB_of 1 hg (gw_C m_1644) rfl rfl rfl (hg _ m_13) (hg _ m_1641) hd_Mo_scope ⟨Nat.le_of_ble_eq_true rfl, Nat.le_of_ble_eq_true rfl⟩, hg _ m_1642, hg _ m_1643⟩ (zz_preVW hM hS (lA_in s) hN hK hP hD 0 rfl rfl) rfl rfl hl.1 rfl (lv_room (Nat.le_of_ble_eq_true rfl)) d_La_law_1192 ⟨hcl0, hsl0⟩) hS (fun q _ h9 => zz_free hD hS (lA_in s) q h9) (zz_free hD hS (lA_in s)) (fun r1192 u1192 t H locs ht hvm hp hP1 hz9 hk9 hS => ?_)
  rw [ht] at hP1
  obtain ⟨rfl, rfl⟩ : r1192 = (f_Mo_scope (xs (i + 1)) (τ)).1 ∧ u1192 = (f_Mo_scope (xs (i + 1)) (τ)).2 := by rw [← hp]; exact ⟨rfl, rfl⟩
  clear hp
  have hP : va_P D classes (Wm ty g ((f_Mo_scope (xs (i + 1)) (τ)).2) (Wc ty h σ ((ho, .inl (ty 1, 1, .inr (.inl o))) :: px))) H := hP1
  have hD : va_D (lA s) (Wm ty g ((f_Mo_scope (xs (i + 1)) (τ)).2) (Wc ty h σ ((ho, .inl (ty 1, 1, .inr (.inl o))) :: px))) := zz_D hD rfl
  have hP : va_P D classes (Wc ty h σ ((ho, .inl (ty 1, 1, .inr (.inl o))) :: (px ++ Wm ty g ((f_Mo_scope (xs (i + 1)) (τ)).2) []))) H := rotP (a := Wm ty g ((f_Mo_scope (xs (i + 1)) (τ)).2) []) (b := Wc ty h σ ((ho, .inl (ty 1, 1, .inr (.inl o))) :: px)) hP
  have hD : va_D (lA s) (Wc ty h σ ((ho, .inl (ty 1, 1, .inr (.inl o))) :: (px ++ Wm ty g ((f_Mo_scope (xs (i + 1)) (τ)).2) []))) := rotD (a := Wm ty g ((f_Mo_scope (xs (i + 1)) (τ)).2) []) (b := Wc ty h σ ((ho, .inl (ty 1, 1, .inr (.inl o))) :: px)) hD
  refine lv_icmp_eq (tgt := 1287) hx hb d_La_law_1195 (by decide) (fun _ => ?_) (fun hc => absurd hA1 hc)
  exact K _ _ _ (lv_sub hl [0, 1, 2, 3, 4] rfl) hP hD hS

set_option maxHeartbeats 4000000 in
set_option maxRecDepth 100000 in
theorem la_19 {p : Program} {l : Launch} {e : Env} {s : State} {m : MethodId} {args : Array Value} {below : List Frame} {meth : Method} {c : Code} {H : Heap} {locs : List Loc} {cells slots : Nat} {Q : State → Prop} {b L i ho : Nat} {xs : Nat → Int32} {D : va_G} {ty sa h g : Nat → Nat} {px : va_W} {σ τ : St} {o : Nat → Int64} {ls : Array Slot} (hlt : l.stackTraces = false) (C : lwC p s m args c b L xs D ty sa) (hi : i + 7 ≤ L) (hL : L < 2 ^ 31) (hcl0 : cells + 0 ≤ room_1.cells) (hsl0 : slots + 0 ≤ room_1.slots) (hl : lv_has ls 7 [(0, .ref b), (1, .ref (h 0)), (2, .ref (g 0)), (3, .ref ho), (4, .int (nI i))]) (hP : va_P D classes (Wc ty h σ ((ho, .inl (ty 1, 1, .inr (.inl o))) :: (px ++ Wm ty g (τ) []))) H) (hD : va_D (lA s) (Wc ty h σ ((ho, .inl (ty 1, 1, .inr (.inl o))) :: (px ++ Wm ty g (τ) [])))) (hS : va_S (lA s) s.heap H locs) (hk1 : k_CL_empty σ) (hk2 : k_Mo_empty τ) (hA1 : (f_CL_empty σ) = (f_Mo_empty (τ)).1)
    (K : ∀ (H : Heap) (locs : List Loc) (ls : Array Slot), lv_has ls 7 [(0, .ref b), (1, .ref (h 0)), (2, .ref (g 0)), (3, .ref ho), (4, .int (nI i))] → va_P D classes (Wc ty h σ ((ho, .inl (ty 1, 1, .inr (.inl o))) :: (px ++ Wm ty g ((f_Mo_empty (τ)).2) []))) H → va_D (lA s) (Wc ty h σ ((ho, .inl (ty 1, 1, .inr (.inl o))) :: (px ++ Wm ty g ((f_Mo_empty (τ)).2) []))) → va_S (lA s) s.heap H locs → W p l e room_1 s m args below meth c H locs cells slots Q (F0 m 1287 ls [])) : W p l e room_1 s m args below meth c H locs cells slots Q (F0 m 1200 ls []) := by
  obtain ⟨hx, hb, hml, hown, hg, hXs, hbl, hK, hN, hNC, hXK, hM⟩ := C
  refine lv_aload_n hx hb d_La_law_1200 rfl (lv_at hl 1 rfl) ?_
  refine zz_callV (va_runV (As := []) (rest := []) ⟨hx, hb, hml, hown, hg⟩ (c_CL_empty l D ty h ((ho, .inl (ty 1, 1, .inr (.inl o))) :: (px ++ Wm ty g (τ) [])) sa σ hk1) ⟨callB_of 0 hg (gw_C m_414) rfl rfl rfl (hg _ m_1) (hg _ m_411) hd_CL_empty ⟨Nat.le_of_ble_eq_true rfl, Nat.le_of_ble_eq_true rfl⟩, hg _ m_412, hg _ m_413⟩ (zz_preV (hM.at hS) hN hK hP 0 rfl rfl) rfl rfl hl.1 rfl (lv_room (Nat.le_of_ble_eq_true rfl)) d_La_law_1201 ⟨hcl0, hsl0⟩) ?_
  refine lv_aload_n hx hb d_La_law_1204 rfl (lv_at hl 2 rfl) ?_
  have hP : va_P D classes (Wm ty g (τ) (Wc ty h σ ((ho, .inl (ty 1, 1, .inr (.inl o))) :: px))) H := rotP (a := Wc ty h σ ((ho, .inl (ty 1, 1, .inr (.inl o))) :: px)) (b := Wm ty g (τ) []) hP
  have hD : va_D (lA s) (Wm ty g (τ) (Wc ty h σ ((ho, .inl (ty 1, 1, .inr (.inl o))) :: px))) := rotD (a := Wc ty h σ ((ho, .inl (ty 1, 1, .inr (.inl o))) :: px)) (b := Wm ty g (τ) []) hD
  refine va_calli (va_runV (As := []) (rest := [.int (f_CL_empty σ)]) ⟨hx, hb, hml, hown, hg⟩ (c_Mo_empty l D ty g (Wc ty h σ ((ho, .inl (ty 1, 1, .inr (.inl o))) :: px)) sa (τ) H.size hk2) ⟨callB_of 0 hg (gw_C m_1648) rfl rfl rfl (hg _ m_13) (hg _ m_1645) hd_Mo_empty ⟨Nat.le_of_ble_eq_true rfl, Nat.le_of_ble_eq_true rfl⟩, hg _ m_1646, hg _ m_1647⟩ (zz_preVW hM hS (lA_in s) hN hK hP hD 0 rfl rfl) rfl rfl hl.1 rfl (lv_room (Nat.le_of_ble_eq_true rfl)) d_La_law_1205 ⟨hcl0, hsl0⟩) hS (fun q _ h9 => zz_free hD hS (lA_in s) q h9) (zz_free hD hS (lA_in s)) (fun r1205 u1205 t H locs ht hvm hp hP1 hz9 hk9 hS => ?_)
  rw [ht] at hP1
  obtain ⟨rfl, rfl⟩ : r1205 = (f_Mo_empty (τ)).1 ∧ u1205 = (f_Mo_empty (τ)).2 := by rw [← hp]; exact ⟨rfl, rfl⟩
  clear hp
  have hP : va_P D classes (Wm ty g ((f_Mo_empty (τ)).2) (Wc ty h σ ((ho, .inl (ty 1, 1, .inr (.inl o))) :: px))) H := hP1
  have hD : va_D (lA s) (Wm ty g ((f_Mo_empty (τ)).2) (Wc ty h σ ((ho, .inl (ty 1, 1, .inr (.inl o))) :: px))) := zz_D hD rfl
  have hP : va_P D classes (Wc ty h σ ((ho, .inl (ty 1, 1, .inr (.inl o))) :: (px ++ Wm ty g ((f_Mo_empty (τ)).2) []))) H := rotP (a := Wm ty g ((f_Mo_empty (τ)).2) []) (b := Wc ty h σ ((ho, .inl (ty 1, 1, .inr (.inl o))) :: px)) hP
  have hD : va_D (lA s) (Wc ty h σ ((ho, .inl (ty 1, 1, .inr (.inl o))) :: (px ++ Wm ty g ((f_Mo_empty (τ)).2) []))) := rotD (a := Wm ty g ((f_Mo_empty (τ)).2) []) (b := Wc ty h σ ((ho, .inl (ty 1, 1, .inr (.inl o))) :: px)) hD
  refine lv_icmp_eq (tgt := 1287) hx hb d_La_law_1208 (by decide) (fun _ => ?_) (fun hc => absurd hA1 hc)
  exact K _ _ _ (lv_sub hl [0, 1, 2, 3, 4] rfl) hP hD hS

set_option maxHeartbeats 4000000 in
set_option maxRecDepth 100000 in
theorem la_20 {p : Program} {l : Launch} {e : Env} {s : State} {m : MethodId} {args : Array Value} {below : List Frame} {meth : Method} {c : Code} {H : Heap} {locs : List Loc} {cells slots : Nat} {Q : State → Prop} {b L i ho : Nat} {xs : Nat → Int32} {D : va_G} {ty sa h g : Nat → Nat} {px : va_W} {σ τ : St} {o : Nat → Int64} {ls : Array Slot} (hlt : l.stackTraces = false) (C : lwC p s m args c b L xs D ty sa) (hi : i + 7 ≤ L) (hL : L < 2 ^ 31) (hcl0 : cells + 0 ≤ room_1.cells) (hsl0 : slots + 0 ≤ room_1.slots) (hl : lv_has ls 7 [(0, .ref b), (1, .ref (h 0)), (2, .ref (g 0)), (3, .ref ho), (4, .int (nI i))]) (hP : va_P D classes (Wc ty h σ ((ho, .inl (ty 1, 1, .inr (.inl o))) :: (px ++ Wm ty g (τ) []))) H) (hD : va_D (lA s) (Wc ty h σ ((ho, .inl (ty 1, 1, .inr (.inl o))) :: (px ++ Wm ty g (τ) [])))) (hS : va_S (lA s) s.heap H locs) (hk1 : k_CL_look (xs (i + 1)) (xs (i + 2)) σ) (hk2 : k_Mo_look (xs (i + 1)) (xs (i + 2)) τ) (hA1 : (f_CL_look (xs (i + 1)) (xs (i + 2)) σ) = (f_Mo_look (xs (i + 1)) (xs (i + 2)) (τ)).1)
    (K : ∀ (H : Heap) (locs : List Loc) (ls : Array Slot), lv_has ls 7 [(0, .ref b), (1, .ref (h 0)), (2, .ref (g 0)), (3, .ref ho), (4, .int (nI i))] → va_P D classes (Wc ty h σ ((ho, .inl (ty 1, 1, .inr (.inl o))) :: (px ++ Wm ty g ((f_Mo_look (xs (i + 1)) (xs (i + 2)) (τ)).2) []))) H → va_D (lA s) (Wc ty h σ ((ho, .inl (ty 1, 1, .inr (.inl o))) :: (px ++ Wm ty g ((f_Mo_look (xs (i + 1)) (xs (i + 2)) (τ)).2) []))) → va_S (lA s) s.heap H locs → W p l e room_1 s m args below meth c H locs cells slots Q (F0 m 1287 ls [])) : W p l e room_1 s m args below meth c H locs cells slots Q (F0 m 1213 ls []) := by
  obtain ⟨hx, hb, hml, hown, hg, hXs, hbl, hK, hN, hNC, hXK, hM⟩ := C
  refine lv_aload_n hx hb d_La_law_1213 rfl (lv_at hl 1 rfl) ?_
  refine lv_aload_n hx hb d_La_law_1214 rfl (lv_at hl 0 rfl) ?_
  refine lv_iload hx hb d_La_law_1215 (lv_at hl 4 rfl) ?_
  refine lv_iconst (v := nI 1) hx hb d_La_law_1217 (by decide) ?_
  refine lv_iadd hx hb d_La_law_1218 ?_
  refine la_ld (k := 1) hx hb hXs hbl hS (by omega) (by omega) d_La_law_1219 ?_
  refine lv_aload_n hx hb d_La_law_1220 rfl (lv_at hl 0 rfl) ?_
  refine lv_iload hx hb d_La_law_1221 (lv_at hl 4 rfl) ?_
  refine lv_iconst (v := nI 2) hx hb d_La_law_1223 (by decide) ?_
  refine lv_iadd hx hb d_La_law_1224 ?_
  refine la_ld (k := 2) hx hb hXs hbl hS (by omega) (by omega) d_La_law_1225 ?_
  refine zz_callV (va_runV (As := [.int (xs (i + 1)), .int (xs (i + 2))]) (rest := []) ⟨hx, hb, hml, hown, hg⟩ (c_CL_look l D ty h ((ho, .inl (ty 1, 1, .inr (.inl o))) :: (px ++ Wm ty g (τ) [])) sa σ (xs (i + 1)) (xs (i + 2)) hk1) ⟨callB_of 2 hg (gw_C m_422) rfl rfl rfl (hg _ m_1) (hg _ m_419) hd_CL_look ⟨Nat.le_of_ble_eq_true rfl, Nat.le_of_ble_eq_true rfl⟩, hg _ m_420, hg _ m_421⟩ (zz_preV (hM.at hS) hN hK hP 0 rfl rfl) rfl rfl hl.1 rfl (lv_room (Nat.le_of_ble_eq_true rfl)) d_La_law_1226 ⟨hcl0, hsl0⟩) ?_
  refine lv_aload_n hx hb d_La_law_1229 rfl (lv_at hl 2 rfl) ?_
  refine lv_aload_n hx hb d_La_law_1230 rfl (lv_at hl 0 rfl) ?_
  refine lv_iload hx hb d_La_law_1231 (lv_at hl 4 rfl) ?_
  refine lv_iconst (v := nI 1) hx hb d_La_law_1233 (by decide) ?_
  refine lv_iadd hx hb d_La_law_1234 ?_
  refine la_ld (k := 1) hx hb hXs hbl hS (by omega) (by omega) d_La_law_1235 ?_
  refine lv_aload_n hx hb d_La_law_1236 rfl (lv_at hl 0 rfl) ?_
  refine lv_iload hx hb d_La_law_1237 (lv_at hl 4 rfl) ?_
  refine lv_iconst (v := nI 2) hx hb d_La_law_1239 (by decide) ?_
  refine lv_iadd hx hb d_La_law_1240 ?_
  refine la_ld (k := 2) hx hb hXs hbl hS (by omega) (by omega) d_La_law_1241 ?_
  have hP : va_P D classes (Wm ty g (τ) (Wc ty h σ ((ho, .inl (ty 1, 1, .inr (.inl o))) :: px))) H := rotP (a := Wc ty h σ ((ho, .inl (ty 1, 1, .inr (.inl o))) :: px)) (b := Wm ty g (τ) []) hP
  have hD : va_D (lA s) (Wm ty g (τ) (Wc ty h σ ((ho, .inl (ty 1, 1, .inr (.inl o))) :: px))) := rotD (a := Wc ty h σ ((ho, .inl (ty 1, 1, .inr (.inl o))) :: px)) (b := Wm ty g (τ) []) hD
  refine va_calli (va_runV (As := [.int (xs (i + 1)), .int (xs (i + 2))]) (rest := [.int (f_CL_look (xs (i + 1)) (xs (i + 2)) σ)]) ⟨hx, hb, hml, hown, hg⟩ (c_Mo_look l D ty g (Wc ty h σ ((ho, .inl (ty 1, 1, .inr (.inl o))) :: px)) sa (τ) H.size (xs (i + 1)) (xs (i + 2)) hk2) ⟨callB_of 2 hg (gw_C m_1652) rfl rfl rfl (hg _ m_13) (hg _ m_1649) hd_Mo_look ⟨Nat.le_of_ble_eq_true rfl, Nat.le_of_ble_eq_true rfl⟩, hg _ m_1650, hg _ m_1651⟩ (zz_preVW hM hS (lA_in s) hN hK hP hD 0 rfl rfl) rfl rfl hl.1 rfl (lv_room (Nat.le_of_ble_eq_true rfl)) d_La_law_1242 ⟨hcl0, hsl0⟩) hS (fun q _ h9 => zz_free hD hS (lA_in s) q h9) (zz_free hD hS (lA_in s)) (fun r1242 u1242 t H locs ht hvm hp hP1 hz9 hk9 hS => ?_)
  rw [ht] at hP1
  obtain ⟨rfl, rfl⟩ : r1242 = (f_Mo_look (xs (i + 1)) (xs (i + 2)) (τ)).1 ∧ u1242 = (f_Mo_look (xs (i + 1)) (xs (i + 2)) (τ)).2 := by rw [← hp]; exact ⟨rfl, rfl⟩
  clear hp
  have hP : va_P D classes (Wm ty g ((f_Mo_look (xs (i + 1)) (xs (i + 2)) (τ)).2) (Wc ty h σ ((ho, .inl (ty 1, 1, .inr (.inl o))) :: px))) H := hP1
  have hD : va_D (lA s) (Wm ty g ((f_Mo_look (xs (i + 1)) (xs (i + 2)) (τ)).2) (Wc ty h σ ((ho, .inl (ty 1, 1, .inr (.inl o))) :: px))) := zz_D hD rfl
  have hP : va_P D classes (Wc ty h σ ((ho, .inl (ty 1, 1, .inr (.inl o))) :: (px ++ Wm ty g ((f_Mo_look (xs (i + 1)) (xs (i + 2)) (τ)).2) []))) H := rotP (a := Wm ty g ((f_Mo_look (xs (i + 1)) (xs (i + 2)) (τ)).2) []) (b := Wc ty h σ ((ho, .inl (ty 1, 1, .inr (.inl o))) :: px)) hP
  have hD : va_D (lA s) (Wc ty h σ ((ho, .inl (ty 1, 1, .inr (.inl o))) :: (px ++ Wm ty g ((f_Mo_look (xs (i + 1)) (xs (i + 2)) (τ)).2) []))) := rotD (a := Wm ty g ((f_Mo_look (xs (i + 1)) (xs (i + 2)) (τ)).2) []) (b := Wc ty h σ ((ho, .inl (ty 1, 1, .inr (.inl o))) :: px)) hD
  refine lv_icmp_eq (tgt := 1287) hx hb d_La_law_1245 (by decide) (fun _ => ?_) (fun hc => absurd hA1 hc)
  exact K _ _ _ (lv_sub hl [0, 1, 2, 3, 4] rfl) hP hD hS

set_option maxHeartbeats 4000000 in
set_option maxRecDepth 100000 in
theorem la_21 {p : Program} {l : Launch} {e : Env} {s : State} {m : MethodId} {args : Array Value} {below : List Frame} {meth : Method} {c : Code} {H : Heap} {locs : List Loc} {cells slots : Nat} {Q : State → Prop} {b L i ho : Nat} {xs : Nat → Int32} {D : va_G} {ty sa h g : Nat → Nat} {px : va_W} {σ τ : St} {o : Nat → Int64} {ls : Array Slot} (hlt : l.stackTraces = false) (C : lwC p s m args c b L xs D ty sa) (hi : i + 7 ≤ L) (hL : L < 2 ^ 31) (hcl0 : cells + 0 ≤ room_1.cells) (hsl0 : slots + 0 ≤ room_1.slots) (hl : lv_has ls 7 [(0, .ref b), (1, .ref (h 0)), (2, .ref (g 0)), (3, .ref ho), (4, .int (nI i))]) (hP : va_P D classes (Wc ty h σ ((ho, .inl (ty 1, 1, .inr (.inl o))) :: (px ++ Wm ty g (τ) []))) H) (hD : va_D (lA s) (Wc ty h σ ((ho, .inl (ty 1, 1, .inr (.inl o))) :: (px ++ Wm ty g (τ) [])))) (hS : va_S (lA s) s.heap H locs) (hk1 : k_CL_text (xs (i + 1)) (xs (i + 2)) σ) (hk2 : k_Mo_text (xs (i + 1)) (xs (i + 2)) τ) (hA1 : (f_CL_text (xs (i + 1)) (xs (i + 2)) σ) = (f_Mo_text (xs (i + 1)) (xs (i + 2)) (τ)).1)
    (K : ∀ (H : Heap) (locs : List Loc) (ls : Array Slot), lv_has ls 7 [(0, .ref b), (1, .ref (h 0)), (2, .ref (g 0)), (3, .ref ho), (4, .int (nI i))] → va_P D classes (Wc ty h σ ((ho, .inl (ty 1, 1, .inr (.inl o))) :: (px ++ Wm ty g ((f_Mo_text (xs (i + 1)) (xs (i + 2)) (τ)).2) []))) H → va_D (lA s) (Wc ty h σ ((ho, .inl (ty 1, 1, .inr (.inl o))) :: (px ++ Wm ty g ((f_Mo_text (xs (i + 1)) (xs (i + 2)) (τ)).2) []))) → va_S (lA s) s.heap H locs → W p l e room_1 s m args below meth c H locs cells slots Q (F0 m 1287 ls [])) : W p l e room_1 s m args below meth c H locs cells slots Q (F0 m 1250 ls []) := by
  obtain ⟨hx, hb, hml, hown, hg, hXs, hbl, hK, hN, hNC, hXK, hM⟩ := C
  refine lv_aload_n hx hb d_La_law_1250 rfl (lv_at hl 1 rfl) ?_
  refine lv_aload_n hx hb d_La_law_1251 rfl (lv_at hl 0 rfl) ?_
  refine lv_iload hx hb d_La_law_1252 (lv_at hl 4 rfl) ?_
  refine lv_iconst (v := nI 1) hx hb d_La_law_1254 (by decide) ?_
  refine lv_iadd hx hb d_La_law_1255 ?_
  refine la_ld (k := 1) hx hb hXs hbl hS (by omega) (by omega) d_La_law_1256 ?_
  refine lv_aload_n hx hb d_La_law_1257 rfl (lv_at hl 0 rfl) ?_
  refine lv_iload hx hb d_La_law_1258 (lv_at hl 4 rfl) ?_
  refine lv_iconst (v := nI 2) hx hb d_La_law_1260 (by decide) ?_
  refine lv_iadd hx hb d_La_law_1261 ?_
  refine la_ld (k := 2) hx hb hXs hbl hS (by omega) (by omega) d_La_law_1262 ?_
  refine zz_callV (va_runV (As := [.int (xs (i + 1)), .int (xs (i + 2))]) (rest := []) ⟨hx, hb, hml, hown, hg⟩ (c_CL_text l D ty h ((ho, .inl (ty 1, 1, .inr (.inl o))) :: (px ++ Wm ty g (τ) [])) sa σ (xs (i + 1)) (xs (i + 2)) hk1) ⟨callB_of 2 hg (gw_C m_459) rfl rfl rfl (hg _ m_1) (hg _ m_456) hd_CL_text ⟨Nat.le_of_ble_eq_true rfl, Nat.le_of_ble_eq_true rfl⟩, hg _ m_457, hg _ m_458⟩ (zz_preV (hM.at hS) hN hK hP 0 rfl rfl) rfl rfl hl.1 rfl (lv_room (Nat.le_of_ble_eq_true rfl)) d_La_law_1263 ⟨hcl0, hsl0⟩) ?_
  refine lv_aload_n hx hb d_La_law_1266 rfl (lv_at hl 2 rfl) ?_
  refine lv_aload_n hx hb d_La_law_1267 rfl (lv_at hl 0 rfl) ?_
  refine lv_iload hx hb d_La_law_1268 (lv_at hl 4 rfl) ?_
  refine lv_iconst (v := nI 1) hx hb d_La_law_1270 (by decide) ?_
  refine lv_iadd hx hb d_La_law_1271 ?_
  refine la_ld (k := 1) hx hb hXs hbl hS (by omega) (by omega) d_La_law_1272 ?_
  refine lv_aload_n hx hb d_La_law_1273 rfl (lv_at hl 0 rfl) ?_
  refine lv_iload hx hb d_La_law_1274 (lv_at hl 4 rfl) ?_
  refine lv_iconst (v := nI 2) hx hb d_La_law_1276 (by decide) ?_
  refine lv_iadd hx hb d_La_law_1277 ?_
  refine la_ld (k := 2) hx hb hXs hbl hS (by omega) (by omega) d_La_law_1278 ?_
  have hP : va_P D classes (Wm ty g (τ) (Wc ty h σ ((ho, .inl (ty 1, 1, .inr (.inl o))) :: px))) H := rotP (a := Wc ty h σ ((ho, .inl (ty 1, 1, .inr (.inl o))) :: px)) (b := Wm ty g (τ) []) hP
  have hD : va_D (lA s) (Wm ty g (τ) (Wc ty h σ ((ho, .inl (ty 1, 1, .inr (.inl o))) :: px))) := rotD (a := Wc ty h σ ((ho, .inl (ty 1, 1, .inr (.inl o))) :: px)) (b := Wm ty g (τ) []) hD
  refine va_calli (va_runV (As := [.int (xs (i + 1)), .int (xs (i + 2))]) (rest := [.int (f_CL_text (xs (i + 1)) (xs (i + 2)) σ)]) ⟨hx, hb, hml, hown, hg⟩ (c_Mo_text l D ty g (Wc ty h σ ((ho, .inl (ty 1, 1, .inr (.inl o))) :: px)) sa (τ) H.size (xs (i + 1)) (xs (i + 2)) hk2) ⟨callB_of 2 hg (gw_C m_1656) rfl rfl rfl (hg _ m_13) (hg _ m_1653) hd_Mo_text ⟨Nat.le_of_ble_eq_true rfl, Nat.le_of_ble_eq_true rfl⟩, hg _ m_1654, hg _ m_1655⟩ (zz_preVW hM hS (lA_in s) hN hK hP hD 0 rfl rfl) rfl rfl hl.1 rfl (lv_room (Nat.le_of_ble_eq_true rfl)) d_La_law_1279 ⟨hcl0, hsl0⟩) hS (fun q _ h9 => zz_free hD hS (lA_in s) q h9) (zz_free hD hS (lA_in s)) (fun r1279 u1279 t H locs ht hvm hp hP1 hz9 hk9 hS => ?_)
  rw [ht] at hP1
  obtain ⟨rfl, rfl⟩ : r1279 = (f_Mo_text (xs (i + 1)) (xs (i + 2)) (τ)).1 ∧ u1279 = (f_Mo_text (xs (i + 1)) (xs (i + 2)) (τ)).2 := by rw [← hp]; exact ⟨rfl, rfl⟩
  clear hp
  have hP : va_P D classes (Wm ty g ((f_Mo_text (xs (i + 1)) (xs (i + 2)) (τ)).2) (Wc ty h σ ((ho, .inl (ty 1, 1, .inr (.inl o))) :: px))) H := hP1
  have hD : va_D (lA s) (Wm ty g ((f_Mo_text (xs (i + 1)) (xs (i + 2)) (τ)).2) (Wc ty h σ ((ho, .inl (ty 1, 1, .inr (.inl o))) :: px))) := zz_D hD rfl
  have hP : va_P D classes (Wc ty h σ ((ho, .inl (ty 1, 1, .inr (.inl o))) :: (px ++ Wm ty g ((f_Mo_text (xs (i + 1)) (xs (i + 2)) (τ)).2) []))) H := rotP (a := Wm ty g ((f_Mo_text (xs (i + 1)) (xs (i + 2)) (τ)).2) []) (b := Wc ty h σ ((ho, .inl (ty 1, 1, .inr (.inl o))) :: px)) hP
  have hD : va_D (lA s) (Wc ty h σ ((ho, .inl (ty 1, 1, .inr (.inl o))) :: (px ++ Wm ty g ((f_Mo_text (xs (i + 1)) (xs (i + 2)) (τ)).2) []))) := rotD (a := Wm ty g ((f_Mo_text (xs (i + 1)) (xs (i + 2)) (τ)).2) []) (b := Wc ty h σ ((ho, .inl (ty 1, 1, .inr (.inl o))) :: px)) hD
  refine lv_icmp_eq (tgt := 1287) hx hb d_La_law_1282 (by decide) (fun _ => ?_) (fun hc => absurd hA1 hc)
  exact K _ _ _ (lv_sub hl [0, 1, 2, 3, 4] rfl) hP hD hS

