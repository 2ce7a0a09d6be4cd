/-! the relation: both states hold the same arrays; X's pending word against Y's pending flags -/
def sk_Inv (np nd es : Nat) (pg pn ss dp ql qs hd sl mk fm : Nat → Int32) : Prop :=
  (1 ≤ np ∧ np ≤ 4) ∧ (1 ≤ nd ∧ nd ≤ 4) ∧ es ≤ 128 ∧ sk_PA pg pn ∧ sk_SZ pn ss ∧ sk_DP dp ∧ sk_QL ql qs ∧ sk_HD hd ∧ sk_SL sl ∧ sk_MK mk ∧ sk_MK fm
def sk_Rel (np : Nat) (u : SX) (v : SY) : Prop := ∃ (nd es : Nat) (ls et : Int32) (co ca pc ra rb sp mk dp fc fa fb fm sl st lf su pg pn ss ql qs qr hd fl ek ep ev er : Nat → Int32),
  u = (nI np, nI nd, ls, et, nI es, co, ca, pc, ra, rb, sp, mk, dp, fc, fa, fb, fm, sl, st, lf, su, pg, ss, ql, qs, qr, hd, fl, ek, ep, ev, er) ∧ v = (nI np, nI nd, ls, et, nI es, co, ca, pc, ra, rb, sp, mk, dp, sl, lf, su, ql, st, pn, ss, qs, qr, hd, fl, fc, fa, fb, fm, ek, ep, ev, er) ∧ sk_Inv np nd es pg pn ss dp ql qs hd sl mk fm
section
variable {np nd es : Nat} {ls et : Int32} {co ca pc ra rb sp mk dp fc fa fb fm sl st lf su pg pn ss ql qs qr hd fl ek ep ev er : Nat → Int32}
theorem sk_mk (h : sk_Inv np nd es pg pn ss dp ql qs hd sl mk fm) : sk_Rel np (nI np, nI nd, ls, et, nI es, co, ca, pc, ra, rb, sp, mk, dp, fc, fa, fb, fm, sl, st, lf, su, pg, ss, ql, qs, qr, hd, fl, ek, ep, ev, er) (nI np, nI nd, ls, et, nI es, co, ca, pc, ra, rb, sp, mk, dp, sl, lf, su, ql, st, pn, ss, qs, qr, hd, fl, fc, fa, fb, fm, ek, ep, ev, er) :=
  ⟨nd, es, ls, et, co, ca, pc, ra, rb, sp, mk, dp, fc, fa, fb, fm, sl, st, lf, su, pg, pn, ss, ql, qs, qr, hd, fl, ek, ep, ev, er, rfl, rfl, h⟩
end
def i_Rel (_ : Nat) (u : SX) (v : SY) : Prop := ∃ np, sk_Rel np u v
theorem i_up {k : Nat} {u : SX} {v : SY} (h : i_Rel k u v) : i_Rel (k + 5) u v := h
def sk_fill (f : Nat → Int32) (x : Int32) : Nat → Nat → Int32
  | 0 => f
  | n + 1 => upd (sk_fill f x n) n x
theorem sk_fill_HD : ∀ n, sk_HD (sk_fill (fun _ => 0) (-1) n) := by
  intro n
  induction n with
  | zero => exact fun _ => Or.inr (Or.inr (by show (0 : Int32) ≤ 0; decide))
  | succ n ih => exact sk_HD_u ih (Or.inr (Or.inl rfl))
theorem sk_inv0 {np nd : Nat} (h1 : 1 ≤ np) (h2 : np ≤ 4) (h3 : 1 ≤ nd) (h4 : nd ≤ 4) : sk_Inv np nd 0 (fun _ => 0) (fun _ => 0) (fun _ => 0) (fun _ => 0) (fun _ => 0) (fun _ => 0) (sk_fill (fun _ => 0) (-1) 128) (fun _ => 0) (fun _ => 0) (fun _ => 0) :=
  ⟨⟨h1, h2⟩, ⟨h3, h4⟩, by omega, fun _ _ => sk_PB_0 fun _ _ => rfl, fun _ _ => rfl, fun _ _ => ⟨0, by omega, nI_0.symm⟩, fun _ _ => ⟨0, by omega, nI_0.symm, fun j hj => by omega⟩, sk_fill_HD 128, fun _ => by show (0 : Int32) ≤ 0; decide, fun _ => by show (0 : Int32) &&& (-33282) = 0; decide, fun _ => by show (0 : Int32) &&& (-33282) = 0; decide⟩
section
variable {np nd es : Nat} {ls et : Int32} {co ca pc ra rb sp mk dp fc fa fb fm sl st lf su pg pn ss ql qs qr hd fl ek ep ev er : Nat → Int32}
theorem sk_I_die {p : Nat} (I : sk_Inv np nd es pg pn ss dp ql qs hd sl mk fm) : sk_Inv np nd es (upd pg p 0) (sk_clr pn (p * 16) 16) (sk_clr ss (p * 16) 16) dp (upd ql p 0) qs hd (upd sl p 0) mk fm := by
  obtain ⟨i1, i2, i3, i4, i5, i6, i7, i8, i9, i10, i11⟩ := I
  exact ⟨i1, i2, i3, sk_PA_c i4, sk_SZ_c i5, i6, sk_QL_0 i7, i8, sk_SL_u i9 (by decide), i10, i11⟩
theorem sk_I_log (I : sk_Inv np nd es pg pn ss dp ql qs hd sl mk fm) : sk_Inv np nd (sk_lgN es) pg pn ss dp ql qs hd sl mk fm := by
  obtain ⟨i1, i2, i3, i4, i5, i6, i7, i8, i9, i10, i11⟩ := I
  exact ⟨i1, i2, sk_lgN_le i3, i4, i5, i6, i7, i8, i9, i10, i11⟩
theorem sk_I_drop {p s : Nat} (hs : s < 16) (I : sk_Inv np nd es pg pn ss dp ql qs hd sl mk fm) : sk_Inv np nd es (upd pg p (pg p &&& (((1 : Int32) <<< (nI s &&& 31)) ^^^ (-1)))) (upd pn (p * 16 + s) 0) (upd ss (p * 16 + s) 0) dp ql qs hd sl mk fm := by
  obtain ⟨i1, i2, i3, i4, i5, i6, i7, i8, i9, i10, i11⟩ := I
  exact ⟨i1, i2, i3, sk_PA_d i4 hs, sk_SZ_d 0 i5, i6, i7, i8, i9, i10, i11⟩
theorem sk_I_mark {p s : Nat} {x : Int32} (h1 : 1 ≤ s) (hs : s < 16) (I : sk_Inv np nd es pg pn ss dp ql qs hd sl mk fm) : sk_Inv np nd es (upd pg p (pg p ||| ((1 : Int32) <<< (nI s &&& 31)))) (upd pn (p * 16 + s) 1) (upd ss (p * 16 + s) x) dp ql qs hd sl mk fm := by
  obtain ⟨i1, i2, i3, i4, i5, i6, i7, i8, i9, i10, i11⟩ := I
  exact ⟨i1, i2, i3, sk_PA_m i4 h1 hs (by decide), sk_SZ_m i5 (by decide), i6, i7, i8, i9, i10, i11⟩
theorem sk_I_enq {p l s : Nat} (hp : p < 4) (hl : l < 8) (e : ql p = nI l) (h1 : 1 ≤ s) (h2 : s < 32) (I : sk_Inv np nd es pg pn ss dp ql qs hd sl mk fm) : sk_Inv np nd es pg pn ss dp (upd ql p (nI (l + 1))) (upd qs (p * 8 + l) (nI s)) hd sl mk fm := by
  obtain ⟨i1, i2, i3, i4, i5, i6, i7, i8, i9, i10, i11⟩ := I
  exact ⟨i1, i2, i3, i4, i5, i6, sk_QL_a hp i7 hl e h1 h2, i8, i9, i10, i11⟩
theorem sk_I_rem {p l j : Nat} (hp : p < 4) (hl : l + 1 ≤ 8) (e : ql p = nI (l + 1)) (hj : j ≤ l) (I : sk_Inv np nd es pg pn ss dp ql qs hd sl mk fm) : sk_Inv np nd es pg pn ss dp (upd ql p (nI l)) (sk_shf qs (p * 8 + j) (l - j)) hd sl mk fm := by
  obtain ⟨i1, i2, i3, i4, i5, i6, i7, i8, i9, i10, i11⟩ := I
  exact ⟨i1, i2, i3, i4, i5, i6, sk_QL_r hp i7 hl e hj, i8, i9, i10, i11⟩
theorem sk_I_dp {p d : Nat} (hd4 : d ≤ 4) (I : sk_Inv np nd es pg pn ss dp ql qs hd sl mk fm) : sk_Inv np nd es pg pn ss (upd dp p (nI d)) ql qs hd sl mk fm := by
  obtain ⟨i1, i2, i3, i4, i5, i6, i7, i8, i9, i10, i11⟩ := I
  exact ⟨i1, i2, i3, i4, i5, sk_DP_u i6 hd4, i7, i8, i9, i10, i11⟩
theorem sk_I_hd {j : Nat} {x : Int32} (hx : x = -2 ∨ x = -1 ∨ 0 ≤ x) (I : sk_Inv np nd es pg pn ss dp ql qs hd sl mk fm) : sk_Inv np nd es pg pn ss dp ql qs (upd hd j x) sl mk fm := by
  obtain ⟨i1, i2, i3, i4, i5, i6, i7, i8, i9, i10, i11⟩ := I
  exact ⟨i1, i2, i3, i4, i5, i6, i7, sk_HD_u i8 hx, i9, i10, i11⟩
theorem sk_I_sl {p : Nat} {x : Int32} (hx : 0 ≤ x) (I : sk_Inv np nd es pg pn ss dp ql qs hd sl mk fm) : sk_Inv np nd es pg pn ss dp ql qs hd (upd sl p x) mk fm := by
  obtain ⟨i1, i2, i3, i4, i5, i6, i7, i8, i9, i10, i11⟩ := I
  exact ⟨i1, i2, i3, i4, i5, i6, i7, i8, sk_SL_u i9 hx, i10, i11⟩
theorem sk_I_mk {p : Nat} {x : Int32} (hx : x &&& (-33282) = x) (I : sk_Inv np nd es pg pn ss dp ql qs hd sl mk fm) : sk_Inv np nd es pg pn ss dp ql qs hd sl (upd mk p x) fm := by
  obtain ⟨i1, i2, i3, i4, i5, i6, i7, i8, i9, i10, i11⟩ := I
  exact ⟨i1, i2, i3, i4, i5, i6, i7, i8, i9, sk_MK_u i10 hx, i11⟩
theorem sk_I_fm {j : Nat} {x : Int32} (hx : x &&& (-33282) = x) (I : sk_Inv np nd es pg pn ss dp ql qs hd sl mk fm) : sk_Inv np nd es pg pn ss dp ql qs hd sl mk (upd fm j x) := by
  obtain ⟨i1, i2, i3, i4, i5, i6, i7, i8, i9, i10, i11⟩ := I
  exact ⟨i1, i2, i3, i4, i5, i6, i7, i8, i9, i10, sk_MK_u i11 hx⟩
theorem sk_I_np (I : sk_Inv np nd es pg pn ss dp ql qs hd sl mk fm) : np ≤ 4 := I.1.2
theorem sk_I_es (I : sk_Inv np nd es pg pn ss dp ql qs hd sl mk fm) : es ≤ 128 := I.2.2.1
theorem sk_I_nd (I : sk_Inv np nd es pg pn ss dp ql qs hd sl mk fm) : nd ≤ 4 := I.2.1.2
end
