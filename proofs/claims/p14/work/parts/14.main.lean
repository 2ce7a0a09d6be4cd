theorem pv_cell {post : Int32 → Prop} {N j : Nat} {xs : Nat → Int32} {x : Int32} (hx : x = nI j) (hj : j < 1000) (hN : N ≤ 260) (h : ∀ v, post v) : wpL_cell post N xs () x := by
  subst hx
  refine br_c (fun _ => h 0) fun z => ⟨vp_in_nI ?_ (by omega), h _⟩
  rcases Nat.lt_or_ge j N with y | y
  · exact y
  · exact absurd (nI_le y (by omega)) z
theorem pv_155 {N : Nat} {xs : Nat → Int32} {kc ks : Nat} (hN : N ≤ 260) : ∀ (k i : Nat) (rt0 st0 rt1 st1 : Int64) (y10 y11 y12 y13 y14 y15 y16 y17 y18 y19 y20 y21 : Int32) (L m nd : Nat) (co ca pc ra rb sp mk dp fc fa fb fm sl st lf su pg ss ql qs qr hd fl ek ep ev er : Nat → Int32), N ≤ i + 3 * k → i ≤ 500 → m ≤ 128 → L ≤ 63 → pv_T nd L m rt0 st0 rt1 st1 y10 y11 y12 y13 y14 y15 y16 y17 y18 y19 y20 y21 co dp sp fc fa fb fm lf pg ss ql qs qr hd ek ep ev er → wL_law_155 (fun r => r = 1) N xs kc ks (k + 1) rt0 st0 rt1 st1 y10 y11 y12 y13 y14 y15 y16 y17 y18 y19 y20 y21 (nI i) (nI 2) (nI nd) (nI L) (nI m) (nI m) co ca pc ra rb sp mk dp fc fa fb fm sl st lf su pg ss ql qs qr hd fl ek ep ev er := by
  intro k
  induction k with
  | zero =>
    intro i rt0 st0 rt1 st1 y10 y11 y12 y13 y14 y15 y16 y17 y18 y19 y20 y21 L m nd co ca pc ra rb sp mk dp fc fa fb fm sl st lf su pg ss ql qs qr hd fl ek ep ev er hi _ hm hL hT
    rw [wL_law_155]
    exact br_t (nI_le (a := N) (by omega) (by omega)) rfl
  | succ k ih =>
    intro i rt0 st0 rt1 st1 y10 y11 y12 y13 y14 y15 y16 y17 y18 y19 y20 y21 L m nd co ca pc ra rb sp mk dp fc fa fb fm sl st lf su pg ss ql qs qr hd fl ek ep ev er hi hi5 hm hL hT
    by_cases hNi : N ≤ i
    · rw [wL_law_155]
      exact br_t (nI_le (a := N) hNi (by omega)) rfl
    · have HJ := fun {rt0 st0 rt1 st1 : Int64} {y10 y11 y12 y13 y14 y15 y16 y17 y18 y19 y20 y21 : Int32} {L9 m9 nd9 : Nat} {co9 ca9 pc9 ra9 rb9 sp9 mk9 dp9 fc9 fa9 fb9 fm9 sl9 st9 lf9 su9 pg9 ss9 ql9 qs9 qr9 hd9 fl9 ek9 ep9 ev9 er9 : Nat → Int32} (a : m9 ≤ 128) (b : L9 ≤ 63) (c : pv_T nd9 L9 m9 rt0 st0 rt1 st1 y10 y11 y12 y13 y14 y15 y16 y17 y18 y19 y20 y21 co9 dp9 sp9 fc9 fa9 fb9 fm9 lf9 pg9 ss9 ql9 qs9 qr9 hd9 ek9 ep9 ev9 er9) => ih (i + 3) rt0 st0 rt1 st1 y10 y11 y12 y13 y14 y15 y16 y17 y18 y19 y20 y21 L9 m9 nd9 co9 ca9 pc9 ra9 rb9 sp9 mk9 dp9 fc9 fa9 fb9 fm9 sl9 st9 lf9 su9 pg9 ss9 ql9 qs9 qr9 hd9 fl9 ek9 ep9 ev9 er9 (by omega) (by omega) a b c
      rw [wL_law_155]
      refine br_f (fun z => hNi ((nI_leI (a := N) (by omega) (by omega)).mp z)) ?_
      refine sx_lt ?_
      refine br_t (nI_le (b := 128) hm (by decide)) ?_
      refine pv_cell (j := i) rfl (by omega) hN fun r98 => ?_
      refine pv_cell (j := i + 1) (nI_1 i) (by omega) hN fun r99 => ?_
      obtain ⟨a, ha, ea⟩ := pk_andE r99 (m := 2147483647) 31 (by decide)
      refine nm_r ea ?_
      refine pv_cell (j := i + 2) (nI_add i 2) (by omega) hN fun r101 => ?_
      obtain ⟨p, hp, ep'⟩ := pk_andE (r98 >>> ((3 : Int32) &&& 31)) (m := 1) 1 (by decide)
      refine nm_e (nm_r ep' ?_)
      refine br_c (fun _ => br_c (fun _ => br_c (fun _ => pv_927 hp hm hL hT HJ) fun _ => br_c (fun _ => pv_927 hp hm hL hT HJ) fun _ => pv_927 hp hm hL hT HJ) fun _ => br_c (fun _ => ⟨by decide, ?_⟩) fun _ => ?_) fun _ => ?_
      · have e15 : nI a - nI a / 15 * 15 = nI (a % 15) := pk_rem (d := 15) ha (by decide) (by decide)
        rw [e15, show (1 : Int32) + nI (a % 15) = nI (1 + a % 15) from nI_add 1 _]
        exact pv_789 hp (by omega) (by omega) hm hL hT HJ
      · obtain ⟨b, hb, eb⟩ := pk_andE (nI a) (m := 15) 4 (by decide)
        rw [eb, show (16 : Int32) + nI b = nI (16 + b) from nI_add 16 b]
        exact pv_789 hp (by omega) (by omega) hm hL hT HJ
      · obtain ⟨d, hd2, w1, _⟩ := hT.2.2
        refine sx_reg5 (p := 0) (by decide) ?_
        refine sx_reg0 (p := 0) (by decide) ?_
        refine sx_reg1 (p := 0) (by decide) ?_
        refine sx_reg2 (p := 0) (by decide) ?_
        refine sx_reg4 (p := 0) (by decide) ?_
        refine sx_reg3 (p := 0) (by decide) ?_
        refine sx_reg6 (p := 0) (by decide) ?_
        rw [w1]
        refine ⟨32, pv_289 hd2 hm hL w1 hT HJ 31 1 0 (by omega) (by omega) fun g hg => ?_⟩
        rw [b_0]
        exact ⟨fun z => absurd z (by decide), fun z => by omega⟩
theorem pv_ops : ∀ t, t < 16 → ¬ ((((601743931843222441 : Int64).toUInt64 >>> ((4 * nI t).toInt64.toUInt64 &&& Int64.toUInt64 63)).toInt64) &&& 15).toInt32 = 6 := by decide +kernel
theorem pv_arg {post : Int32 → Prop} {a b c : Int32} (h : ∀ v, post v) : wpL_argFor post () a b c :=
  br_c (fun _ => br_c (fun _ => h _) fun _ => h _) fun _ => br_c (fun _ => h _) fun _ => br_c (fun _ => h _) fun _ => br_c (fun _ => h _) fun _ => br_c (fun _ => h _) fun _ => br_c (fun _ => h _) fun _ => br_c (fun _ => h _) fun _ => br_c (fun _ => h _) fun _ => h _
section
variable {nd es : Nat} {ls et : Int32} {co ca pc ra rb sp mk dp fc fa fb fm sl st lf su pg ss ql qs qr hd fl ek ep ev er : Nat → Int32}
variable {N : Nat} {xs : Nat → Int32} {kc ks : Nat}
theorem pv_poke {post : Int32 → St2 → Prop} {p c : Nat} {x y : Int32} (hp : p < 2) (hc : c < 32) (hx : ¬ x = 6) (h6 : ∀ j, ¬ co j = 6) (K : ∀ (r : Int32) {co1 ca1 : Nat → Int32}, (∀ j, ¬ co1 j = 6) → post r (nI 2, nI nd, ls, et, nI es, co1, ca1, pc, ra, rb, sp, mk, dp, fc, fa, fb, fm, sl, st, lf, su, pg, ss, ql, qs, qr, hd, fl, ek, ep, ev, er)) : wpX_poke post (nI 2, nI nd, ls, et, nI es, co, ca, pc, ra, rb, sp, mk, dp, fc, fa, fb, fm, sl, st, lf, su, pg, ss, ql, qs, qr, hd, fl, ek, ep, ev, er) (nI p) (nI c) x y := by
  have e3 : vp_in (nI (p * 32 + c)) 128 := vp_in_nI (by omega) (by decide)
  have e4 : (nI (p * 32 + c)).toNatClampNeg = p * 32 + c := nI_clamp (by omega)
  unfold wpX_poke
  refine sx_pid1 (np := 2) hp (by decide) ?_
  refine br_f (by decide) ?_
  refine sx_cell1 hc ?_
  refine br_f (by decide) (br_c (fun _ => K _ h6) fun _ => br_c (fun _ => ?_) fun _ => K _ h6)
  simp only [sk_ix32, e3, e4, true_implies, false_implies, not_true_eq_false, not_false_eq_true, and_true, true_and, forall_eq, implies_true]
  refine K _ fun j => ?_
  by_cases e : j = p * 32 + c
  · rw [e, pk_us]; exact hx
  · rw [pk_un e]; exact h6 j
theorem pv_27 {J : Int32 → Int32 → Int32 → Int32 → Int32 → Int32 → (Nat → Int32) → (Nat → Int32) → (Nat → Int32) → (Nat → Int32) → (Nat → Int32) → (Nat → Int32) → (Nat → Int32) → (Nat → Int32) → (Nat → Int32) → (Nat → Int32) → (Nat → Int32) → (Nat → Int32) → (Nat → Int32) → (Nat → Int32) → (Nat → Int32) → (Nat → Int32) → (Nat → Int32) → (Nat → Int32) → (Nat → Int32) → (Nat → Int32) → (Nat → Int32) → (Nat → Int32) → (Nat → Int32) → (Nat → Int32) → (Nat → Int32) → (Nat → Int32) → (Nat → Int32) → Prop} {p : Nat} (hN : N ≤ 260) (hp : p < 2) (H : ∀ {co1 ca1 : Nat → Int32}, (∀ j, ¬ co1 j = 6) → J (nI (p + 1)) (nI 2) (nI nd) ls et (nI es) co1 ca1 pc ra rb sp mk dp fc fa fb fm sl st lf su pg ss ql qs qr hd fl ek ep ev er) : ∀ (d a : Nat) (co ca : Nat → Int32), a + d = 16 → (∀ j, ¬ co j = 6) → wL_law_27 (fun r => r = 1) N xs J (nI p) kc ks (d + 1) (nI a) (nI 2) (nI nd) ls et (nI es) co ca pc ra rb sp mk dp fc fa fb fm sl st lf su pg ss ql qs qr hd fl ek ep ev er := by
  intro d
  induction d with
  | zero =>
    intro a co ca ha h6
    have ha' : a = 16 := by omega
    subst ha'
    rw [wL_law_27]
    exact br_t (by decide) (nm_r (nI_1 p) (H h6))
  | succ d ih =>
    intro a co ca ha h6
    rw [wL_law_27]
    refine br_f (nI_ge (b := 16) (by omega) (by decide)) ?_
    have ei : (1 : Int32) + nI p * 16 + nI a = nI (1 + p * 16 + a) := by
      show nI 1 + nI p * nI 16 + nI a = _
      rw [pk_mul, nI_add, nI_add]
    refine pv_cell (j := 1 + p * 16 + a) ei (by omega) hN fun r => ?_
    obtain ⟨t, ht, et'⟩ := pk_andE r (m := 15) 4 (by decide)
    refine nm_r et' (nm_e ?_)
    refine pv_arg fun v => ?_
    refine pv_poke hp (by omega) (pv_ops t ht) h6 (fun r => ?_)
    intro co1 ca1 h6'
    exact nm_r (nI_1 a) (ih (a + 1) co1 ca1 (by omega) h6')
end
def sk_fill (f : Nat → Int32) (x : Int32) : Nat → Nat → Int32
  | 0 => f
  | n + 1 => upd (sk_fill f x n) n x
theorem sk_fill_HD : ∀ n, sk_HD (sk_fill (fun _ => 0) (-1) n) := by
  intro n
  induction n with
  | zero => exact fun _ => Or.inr (Or.inr (by show (0 : Int32) ≤ 0; decide))
  | succ n ih => exact sk_HD_u ih (Or.inr (Or.inl rfl))
theorem pv_A0 {p : Nat} {al : Prop} {gq sq sp ek ep ev er : Nat → Int32} : pv_A 0 0 al 0 gq sq 0 sp ek ep ev er (pv_B 0) (pv_B 0) p :=
  ⟨⟨fun s h => absurd h (pv_B_0 s), fun s h => absurd h (pv_B_0 s), fun s h => absurd h (pv_B_0 s)⟩, ⟨fun j hj => absurd hj (by omega), fun i j a b _ hj => absurd hj (by omega)⟩, ⟨fun g _ _ c => absurd c (by rw [b_0]; decide), fun g g' _ _ _ _ _ c => absurd c (by rw [b_0]; decide)⟩, ⟨fun s h => h.elim (fun h => absurd h (pv_B_0 s)) (fun h => absurd h (pv_B_0 s)), fun _ s h => absurd h (pv_B_0 s)⟩, ⟨fun i j v a b _ hj => absurd hj (by omega), fun i v a j b hi => absurd hi (by omega)⟩, fun i hi => absurd hi (by omega)⟩
theorem pv_T0 {nd : Nat} {co1 : Nat → Int32} (h1 : 1 ≤ nd) (h2 : nd ≤ 2) (h6 : ∀ j, ¬ co1 j = 6) : pv_T nd 0 0 0 0 0 0 0 0 0 0 0 0 0 0 0 0 0 0 co1 (fun _ => 0) (sk_fill (fun _ => 0) 64 4) (fun _ => 0) (fun _ => 0) (fun _ => 0) (fun _ => 0) (fun _ => 0) (fun _ => 0) (fun _ => 0) (fun _ => 0) (fun _ => 0) (fun _ => 0) (sk_fill (fun _ => 0) (-1) 128) (fun _ => 0) (fun _ => 0) (fun _ => 0) (fun _ => 0) := by
  refine ⟨⟨⟨h1, h2⟩, h6, fun _ _ => ⟨0, by omega, nI_0.symm⟩, fun _ _ => ⟨0, by omega, nI_0.symm, fun j hj => by omega⟩, sk_fill_HD 128⟩, fun _ => ⟨fun p hp => ?_, fun i hi => absurd hi (by omega)⟩, 0, by decide, nI_0.symm, by rfl, fun z => absurd rfl z, fun z => absurd rfl z⟩
  have hc : p = 0 ∨ p = 1 := by omega
  rcases hc with rfl | rfl
  · exact ⟨0, ⟨nI_0.symm, Or.inl rfl⟩, by omega, pv_A0⟩
  · exact ⟨0, ⟨nI_0.symm, Or.inl rfl⟩, by omega, pv_A0⟩
section
variable {nd es : Nat} {ls et : Int32} {co ca pc ra rb sp mk dp fc fa fb fm sl st lf su pg ss ql qs qr hd fl ek ep ev er : Nat → Int32}
variable {mc ms kc ks : Nat}
theorem sx_i274 {post : St2 → Prop} {f : Nat → Int32} (h : post (nI 2, nI nd, ls, et, nI es, co, ca, pc, ra, rb, sp, mk, dp, fc, fa, fb, fm, sl, st, lf, su, pg, ss, ql, qs, qr, sk_fill f (-1) 128, fl, ek, ep, ev, er)) : ∀ d i, i + d = 128 → wX_init_274 post mc ms kc ks (nI 2) (nI nd) ls et (nI es) (d + 1) (nI i) co ca pc ra rb sp mk dp fc fa fb fm sl st lf su pg ss ql qs qr (sk_fill f (-1) i) fl ek ep ev er := by
  intro d
  induction d with
  | zero =>
    intro i hi
    have hi' : i = 128 := by omega
    subst hi'
    rw [wX_init_274]
    exact br_t (by decide) h
  | succ d ih =>
    intro i hi
    have z : ¬ (128 : Int32) ≤ nI i := nI_ge (b := 128) (by omega) (by decide)
    rw [wX_init_274]
    refine br_f z ⟨vp_in_nI (by omega) (by decide), nm_r (by rw [nI_clamp (by omega)]) (nm_r (nI_1 i) ?_)⟩
    exact ih (i + 1) (by omega)
theorem sx_i253 {post : St2 → Prop} {f g : Nat → Int32} (h : post (nI 2, nI nd, ls, et, nI es, co, ca, pc, ra, rb, sk_fill g 64 4, mk, dp, fc, fa, fb, fm, sl, st, lf, su, pg, ss, ql, qs, qr, sk_fill f (-1) 128, fl, ek, ep, ev, er)) : ∀ d i, i + d = 4 → wX_init_253 post mc ms kc ks (nI 2) (nI nd) ls et (nI es) (d + 1) (nI i) co ca pc ra rb (sk_fill g 64 i) mk dp fc fa fb fm sl st lf su pg ss ql qs qr f fl ek ep ev er := by
  intro d
  induction d with
  | zero =>
    intro i hi
    have hi' : i = 4 := by omega
    subst hi'
    rw [wX_init_253]
    exact br_t (by decide) ⟨129, sx_i274 h 128 0 rfl⟩
  | succ d ih =>
    intro i hi
    have z : ¬ (4 : Int32) ≤ nI i := nI_ge (b := 4) (by omega) (by decide)
    rw [wX_init_253]
    refine br_f z ⟨vp_in_nI (by omega) (by decide), nm_r (by rw [nI_clamp (by omega)]) (nm_r (nI_1 i) ?_)⟩
    exact ih (i + 1) (by omega)
end
theorem pv_20 {N : Nat} {xs : Nat → Int32} {kc ks nd : Nat} (hN : N ≤ 260) (h1 : 1 ≤ nd) (h2 : nd ≤ 2) : ∃ fu20, wL_law_20 (fun r => r = 1) N xs kc ks fu20 0 (nI 2) (nI nd) (nI 0) (nI 0) (nI 0) (fun _ => 0) (fun _ => 0) (fun _ => 0) (fun _ => 0) (fun _ => 0) (sk_fill (fun _ => 0) 64 4) (fun _ => 0) (fun _ => 0) (fun _ => 0) (fun _ => 0) (fun _ => 0) (fun _ => 0) (fun _ => 0) (fun _ => 0) (fun _ => 0) (fun _ => 0) (fun _ => 0) (fun _ => 0) (fun _ => 0) (fun _ => 0) (fun _ => 0) (sk_fill (fun _ => 0) (-1) 128) (fun _ => 0) (fun _ => 0) (fun _ => 0) (fun _ => 0) (fun _ => 0) := by
  refine ⟨3, ?_⟩
  rw [wL_law_20]
  refine br_f (by decide) ⟨17, pv_27 (p := 0) (es := 0) (et := nI 0) (ls := nI 0) hN (by decide) ?_ 16 0 _ _ (by decide) (fun _ => by show ¬ (0 : Int32) = 6; decide)⟩
  intro co1 ca1 h6
  rw [wL_law_20]
  refine br_f (by decide) ⟨17, pv_27 (p := 1) (es := 0) (et := nI 0) (ls := nI 0) hN (by decide) ?_ 16 0 _ _ (by decide) h6⟩
  intro co2 ca2 h6'
  rw [wL_law_20]
  refine br_t (by decide) ⟨81, ?_⟩
  exact pv_155 hN 80 33 0 0 0 0 0 0 0 0 0 0 0 0 0 0 0 0 0 0 nd co2 ca2 (fun _ => 0) (fun _ => 0) (fun _ => 0) (sk_fill (fun _ => 0) 64 4) (fun _ => 0) (fun _ => 0) (fun _ => 0) (fun _ => 0) (fun _ => 0) (fun _ => 0) (fun _ => 0) (fun _ => 0) (fun _ => 0) (fun _ => 0) (fun _ => 0) (fun _ => 0) (fun _ => 0) (fun _ => 0) (fun _ => 0) (sk_fill (fun _ => 0) (-1) 128) (fun _ => 0) (fun _ => 0) (fun _ => 0) (fun _ => 0) (fun _ => 0) (by omega) (by decide) (by decide) (by decide) (pv_T0 h1 h2 h6')
