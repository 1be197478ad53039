/-! undo, keep, restore; characters of the text -/
theorem snoc_or {α : Type} (l : List α) : l = [] ∨ ∃ L b, l = L ++ [b] := by
  induction l with
  | nil => exact Or.inl rfl
  | cons a l ih =>
    right
    rcases ih with h | ⟨L, b, h⟩
    · exact ⟨[], a, by rw [h]; rfl⟩
    · exact ⟨a :: L, b, by rw [h]; rfl⟩
theorem TxC.app {V : pV} {T : List Int32} (h : TxC V T) (c : Int32) : TxC (sV (sV V 1273 (upd (V 1273) T.length c)) 1272 (upd (V 1272) 1 (nI (T.length + 1)))) (T ++ [c]) := by
  refine ⟨by rw [sV_s, pk_us]; simp, fun i a hi => ?_⟩
  rw [sV_n (by omega), sV_s]
  by_cases d : i = T.length
  · subst d
    rw [pk_us]
    simpa using hi
  · rw [pk_un d]
    rw [List.getElem?_append_left (by have := getE_lt hi; simp at this; omega)] at hi
    exact h.2 i a hi
theorem nar_id (v : Int32) : vp_nar .char ((v.toUInt32 % 65536).toInt32) = (v.toUInt32 % 65536).toInt32 := by
  have e : (v.toUInt32 % 65536) % 65536 = v.toUInt32 % 65536 := by
    apply UInt32.toNat_inj.mp
    rw [UInt32.toNat_mod, UInt32.toNat_mod]
    exact Nat.mod_mod _ _
  simp [vp_nar, narrow, e]
