/-! ladders, places, settings -/
/-- a place of the row is another -/
theorem pl_eq {s σ : Nat → Nat} {r m v : Nat} (hP : PS s σ) (hr : r < s 1) (hm : m < 12) (hP' : PS (updN s (393 + 12 * σ r + m) v) σ) : EqH s (updN s (393 + 12 * σ r + m) v) ∧ EqU (updU (UU s σ) r (20 + m) v) (UU (updN s (393 + 12 * σ r + m) v) σ) ∧ (∀ q, q < 4 → lsS s q = lsS (updN s (393 + 12 * σ r + m) v) q) ∧ ∀ q, q < 4 → tkR (updN (UU s σ r) (20 + m) v) q ≤ UU s σ r (10 + q) := by
  have b1 := hP.W.n48
  have hk := hP.2.1.1 r hr
  have hu : EqU (updU (UU s σ) r (20 + m) v) (UU (updN s (393 + 12 * σ r + m) v) σ) := EqU_pl (fun _ _ _ _ => rfl) b1 hP.2.1 hr (updN_n (by omega)) (fun k i hk' hi => rec_pl_lo (by omega) hk' hm hi) (fun k m' hk' hm' => by rw [rec_pl hm hm'])
  refine ⟨fun i hi => (updN_n (by omega)).symm, hu, fun q _ => (lsS_cg (fun i hi => updN_n (by omega)) q).symm, fun q hq => ?_⟩
  have g := (hP'.ug r (by omega)).1.2.2 q hq
  have e : updU (UU s σ) r (20 + m) v r = updN (UU s σ r) (20 + m) v := if_pos rfl
  have e10 := hu r (10 + q) (by omega) (by omega)
  rw [e, updN_n (by omega)] at e10
  rw [e10]
  rw [tkR_cg (v := UU (updN s (393 + 12 * σ r + m) v) σ r) (fun m' hm' => by rw [← e]; exact hu r (20 + m') (by omega) (by omega))]
  exact g
theorem neg10 : (-nI 1 = nI 0) = False := eq_false (by decide)
