theorem i_vc (xs : Nat → Int32) (L : Nat) (hL : L ≤ 260) : wpL_law (fun r => r = 1) L xs := by
  unfold wpL_law
  refine pv_cell (j := 0) rfl (by decide) hL fun r => ?_
  refine ⟨27, 1264, by decide, by decide, ?_⟩
  obtain ⟨t, ht, et⟩ := pk_andE r (m := 1) 1 (by decide)
  rw [et, show (1 : Int32) + nI t = nI (1 + t) from nI_add 1 t]
  have h2 : ∀ post : Int32 → Prop, post (nI 2) → wpX_clamp post () 2 1 4 := fun post h => br_t (by decide) (br_t (by decide) h)
  have h3 : ∀ post : Int32 → Prop, post (nI (1 + t)) → wpX_clamp post () (nI (1 + t)) 1 4 := fun post h => br_t (nI_le (a := 1) (by omega) (by omega)) (br_t (nI_le (b := 4) (by omega) (by decide)) h)
  unfold wpX_init
  refine ⟨by decide, by decide, by decide, by decide, by decide, by decide, by decide, by decide, by decide, by decide, by decide, by decide, by decide, by decide, by decide, by decide, by decide, by decide, by decide, by decide, by decide, by decide, by decide, by decide, by decide, by decide, by decide, by decide, by decide, by decide, by decide, by decide, by decide, by decide, by decide, by decide, by decide, by decide, by decide, by decide, by decide, by decide, by decide, by decide, by decide, by decide, by decide, by decide, by decide, by decide, by decide, by decide, by decide, by decide, ?_⟩
  refine h2 _ ?_
  refine h3 _ ?_
  refine ⟨5, sx_i253 (nd := 1 + t) (es := 0) (ls := nI 0) (et := nI 0) ?_ 4 0 rfl⟩
  exact pv_20 hL (by omega) (by omega)
