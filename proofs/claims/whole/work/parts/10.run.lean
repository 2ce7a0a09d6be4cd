theorem sk_inner {np : Nat} : ∀ (d p : Nat) (c : Int32) (nd es : Nat) (ls et : Int32) (co ca pc ra rb sp mk dp fc fa fb fm sl st lf su pg pn ss ql qs qr hd fl ek ep ev er : Nat → Int32), sk_Inv np nd es pg pn ss dp ql qs hd sl mk fm → p + d = np → ∃ (c' : Int32) (nd1 es1 : Nat) (ls1 et1 : Int32) (co1 ca1 pc1 ra1 rb1 sp1 mk1 dp1 fc1 fa1 fb1 fm1 sl1 st1 lf1 su1 pg1 pn1 ss1 ql1 qs1 qr1 hd1 fl1 ek1 ep1 ev1 er1 : Nat → Int32), sk_Inv np nd1 es1 pg1 pn1 ss1 dp1 ql1 qs1 hd1 sl1 mk1 fm1 ∧ (∀ (post : Int32 → SX → Prop) (J : Int32 → Int32 → Int32 → Int32 → Int32 → Int32 → Int32 → (Nat → Int32) → (Nat → Int32) → (Nat → Int32) → (Nat → Int32) → (Nat → Int32) → (Nat → Int32) → (Nat → Int32) → (Nat → Int32) → (Nat → Int32) → (Nat → Int32) → (Nat → Int32) → (Nat → Int32) → (Nat → Int32) → (Nat → Int32) → (Nat → Int32) → (Nat → Int32) → (Nat → Int32) → (Nat → Int32) → (Nat → Int32) → (Nat → Int32) → (Nat → Int32) → (Nat → Int32) → (Nat → Int32) → (Nat → Int32) → (Nat → Int32) → (Nat → Int32) → (Nat → Int32) → Prop) (x2 x4 : Int32), J c' (x4 + 1) (nI np) (nI nd1) ls1 et1 (nI es1) co1 ca1 pc1 ra1 rb1 sp1 mk1 dp1 fc1 fa1 fb1 fm1 sl1 st1 lf1 su1 pg1 ss1 ql1 qs1 qr1 hd1 fl1 ek1 ep1 ev1 er1 → wX_run_22 post J x2 x4 (d + 1) c (nI p) (nI np) (nI nd) ls et (nI es) co ca pc ra rb sp mk dp fc fa fb fm sl st lf su pg ss ql qs qr hd fl ek ep ev er) ∧ (∀ (post : Int32 → SY → Prop) (J : Int32 → Int32 → Int32 → Int32 → Int32 → Int32 → Int32 → (Nat → Int32) → (Nat → Int32) → (Nat → Int32) → (Nat → Int32) → (Nat → Int32) → (Nat → Int32) → (Nat → Int32) → (Nat → Int32) → (Nat → Int32) → (Nat → Int32) → (Nat → Int32) → (Nat → Int32) → (Nat → Int32) → (Nat → Int32) → (Nat → Int32) → (Nat → Int32) → (Nat → Int32) → (Nat → Int32) → (Nat → Int32) → (Nat → Int32) → (Nat → Int32) → (Nat → Int32) → (Nat → Int32) → (Nat → Int32) → (Nat → Int32) → (Nat → Int32) → (Nat → Int32) → Prop) (x2 x4 : Int32), J c' (x4 + 1) (nI np) (nI nd1) ls1 et1 (nI es1) co1 ca1 pc1 ra1 rb1 sp1 mk1 dp1 sl1 lf1 su1 ql1 st1 pn1 ss1 qs1 qr1 hd1 fl1 fc1 fa1 fb1 fm1 ek1 ep1 ev1 er1 → wY_run_35 post J x2 x4 (d + 1) c (nI p) (nI np) (nI nd) ls et (nI es) co ca pc ra rb sp mk dp sl lf su ql st pn ss qs qr hd fl fc fa fb fm ek ep ev er) := by
  intro d
  induction d with
  | zero =>
    intro p c nd es ls et co ca pc ra rb sp mk dp fc fa fb fm sl st lf su pg pn ss ql qs qr hd fl ek ep ev er I hsum
    have hn := sk_I_np I
    have z : nI np ≤ nI p := nI_le (by omega) (by omega)
    refine ⟨c, nd, es, ls, et, co, ca, pc, ra, rb, sp, mk, dp, fc, fa, fb, fm, sl, st, lf, su, pg, pn, ss, ql, qs, qr, hd, fl, ek, ep, ev, er, I, fun post J x2 x4 h => ?_, fun post J x2 x4 h => ?_⟩
    · rw [wX_run_22]
      exact br_t z (nm_e h)
    · rw [wY_run_35]
      exact br_t z (nm_e h)
  | succ d ih =>
    intro p c nd es ls et co ca pc ra rb sp mk dp fc fa fb fm sl st lf su pg pn ss ql qs qr hd fl ek ep ev er I hsum
    have hn := sk_I_np I
    have hp : p < 4 := by omega
    have e1 : vp_in (nI p) 4 := vp_in_nI hp (by decide)
    have e2 : (nI p).toNatClampNeg = p := nI_clamp (by omega)
    have z : ¬ nI np ≤ nI p := nI_ge (by omega) (by omega)
    by_cases hl : lf p = 0
    · by_cases ht : st p = 0
      · obtain ⟨u, v, R, hX, hY⟩ := sk_step I (by omega) hl ht
        obtain ⟨nd1, es1, ls1, et1, co1, ca1, pc1, ra1, rb1, sp1, mk1, dp1, fc1, fa1, fb1, fm1, sl1, st1, lf1, su1, pg1, pn1, ss1, ql1, qs1, qr1, hd1, fl1, ek1, ep1, ev1, er1, rfl, rfl, I1⟩ := R
        obtain ⟨c', nd2, es2, ls2, et2, co2, ca2, pc2, ra2, rb2, sp2, mk2, dp2, fc2, fa2, fb2, fm2, sl2, st2, lf2, su2, pg2, pn2, ss2, ql2, qs2, qr2, hd2, fl2, ek2, ep2, ev2, er2, I2, hX2, hY2⟩ := ih (p + 1) (c + 1) nd1 es1 ls1 et1 co1 ca1 pc1 ra1 rb1 sp1 mk1 dp1 fc1 fa1 fb1 fm1 sl1 st1 lf1 su1 pg1 pn1 ss1 ql1 qs1 qr1 hd1 fl1 ek1 ep1 ev1 er1 I1 (by omega)
        refine ⟨c', nd2, es2, ls2, et2, co2, ca2, pc2, ra2, rb2, sp2, mk2, dp2, fc2, fa2, fb2, fm2, sl2, st2, lf2, su2, pg2, pn2, ss2, ql2, qs2, qr2, hd2, fl2, ek2, ep2, ev2, er2, I2, fun post J x2 x4 h => ?_, fun post J x2 x4 h => ?_⟩
        · rw [wX_run_22]
          refine br_f z ⟨e1, br_t (by rw [e2]; exact hl) ⟨e1, br_t (by rw [e2]; exact ht) (hX _ ?_)⟩⟩
          exact nm_e (nm_r (nI_1 p) (hX2 post J x2 x4 h))
        · rw [wY_run_35]
          refine br_f z (hY _ ?_)
          exact br_f (by decide) (nm_e (nm_r (nI_1 p) (hY2 post J x2 x4 h)))
      · obtain ⟨c', nd2, es2, ls2, et2, co2, ca2, pc2, ra2, rb2, sp2, mk2, dp2, fc2, fa2, fb2, fm2, sl2, st2, lf2, su2, pg2, pn2, ss2, ql2, qs2, qr2, hd2, fl2, ek2, ep2, ev2, er2, I2, hX2, hY2⟩ := ih (p + 1) c nd es ls et co ca pc ra rb sp mk dp fc fa fb fm sl st lf su pg pn ss ql qs qr hd fl ek ep ev er I (by omega)
        refine ⟨c', nd2, es2, ls2, et2, co2, ca2, pc2, ra2, rb2, sp2, mk2, dp2, fc2, fa2, fb2, fm2, sl2, st2, lf2, su2, pg2, pn2, ss2, ql2, qs2, qr2, hd2, fl2, ek2, ep2, ev2, er2, I2, fun post J x2 x4 h => ?_, fun post J x2 x4 h => ?_⟩
        · rw [wX_run_22]
          refine br_f z ⟨e1, br_t (by rw [e2]; exact hl) ⟨e1, br_f (by rw [e2]; exact ht) ?_⟩⟩
          exact nm_r (nI_1 p) (hX2 post J x2 x4 h)
        · rw [wY_run_35]
          refine br_f z ?_
          unfold wpY_step
          refine ⟨e1, br_t (by rw [e2]; exact hl) ⟨e1, br_f (by rw [e2]; exact ht) ?_⟩⟩
          exact br_t rfl (nm_r (nI_1 p) (hY2 post J x2 x4 h))
    · obtain ⟨c', nd2, es2, ls2, et2, co2, ca2, pc2, ra2, rb2, sp2, mk2, dp2, fc2, fa2, fb2, fm2, sl2, st2, lf2, su2, pg2, pn2, ss2, ql2, qs2, qr2, hd2, fl2, ek2, ep2, ev2, er2, I2, hX2, hY2⟩ := ih (p + 1) c nd es ls et co ca pc ra rb sp mk dp fc fa fb fm sl st lf su pg pn ss ql qs qr hd fl ek ep ev er I (by omega)
      refine ⟨c', nd2, es2, ls2, et2, co2, ca2, pc2, ra2, rb2, sp2, mk2, dp2, fc2, fa2, fb2, fm2, sl2, st2, lf2, su2, pg2, pn2, ss2, ql2, qs2, qr2, hd2, fl2, ek2, ep2, ev2, er2, I2, fun post J x2 x4 h => ?_, fun post J x2 x4 h => ?_⟩
      · rw [wX_run_22]
        refine br_f z ⟨e1, br_f (by rw [e2]; exact hl) ?_⟩
        exact nm_r (nI_1 p) (hX2 post J x2 x4 h)
      · rw [wY_run_35]
        refine br_f z ?_
        unfold wpY_step
        refine ⟨e1, br_f (by rw [e2]; exact hl) ?_⟩
        exact br_t rfl (nm_r (nI_1 p) (hY2 post J x2 x4 h))
theorem sk_outer {np w : Nat} (hw : w ≤ 64) : ∀ (d i : Nat) (c : Int32) (nd es : Nat) (ls et : Int32) (co ca pc ra rb sp mk dp fc fa fb fm sl st lf su pg pn ss ql qs qr hd fl ek ep ev er : Nat → Int32), sk_Inv np nd es pg pn ss dp ql qs hd sl mk fm → i + d = w → ∃ r u v, sk_Rel np u v ∧ (∀ post : Int32 → SX → Prop, post r u → wX_run_13 post (nI w) (d + 1) c (nI i) (nI np) (nI nd) ls et (nI es) co ca pc ra rb sp mk dp fc fa fb fm sl st lf su pg ss ql qs qr hd fl ek ep ev er) ∧ (∀ post : Int32 → SY → Prop, post r v → wY_run_26 post (nI w) (d + 1) c (nI i) (nI np) (nI nd) ls et (nI es) co ca pc ra rb sp mk dp sl lf su ql st pn ss qs qr hd fl fc fa fb fm ek ep ev er) := by
  intro d
  induction d with
  | zero =>
    intro i c nd es ls et co ca pc ra rb sp mk dp fc fa fb fm sl st lf su pg pn ss ql qs qr hd fl ek ep ev er I hsum
    have z : nI w ≤ nI i := nI_le (by omega) (by omega)
    refine ⟨c, (nI np, nI nd, ls, et, nI es, co, ca, pc, ra, rb, sp, mk, dp, fc, fa, fb, fm, sl, st, lf, su, pg, ss, ql, qs, qr, hd, fl, ek, ep, ev, er), (nI np, nI nd, ls, et, nI es, co, ca, pc, ra, rb, sp, mk, dp, sl, lf, su, ql, st, pn, ss, qs, qr, hd, fl, fc, fa, fb, fm, ek, ep, ev, er), sk_mk I, fun post h => ?_, fun post h => ?_⟩
    · rw [wX_run_13]
      exact br_t z h
    · rw [wY_run_26]
      exact br_t z h
  | succ d ih =>
    intro i c nd es ls et co ca pc ra rb sp mk dp fc fa fb fm sl st lf su pg pn ss ql qs qr hd fl ek ep ev er I hsum
    have z : ¬ nI w ≤ nI i := nI_ge (by omega) (by omega)
    obtain ⟨c', nd1, es1, ls1, et1, co1, ca1, pc1, ra1, rb1, sp1, mk1, dp1, fc1, fa1, fb1, fm1, sl1, st1, lf1, su1, pg1, pn1, ss1, ql1, qs1, qr1, hd1, fl1, ek1, ep1, ev1, er1, I1, hX1, hY1⟩ := sk_inner np 0 c nd es ls et co ca pc ra rb sp mk dp fc fa fb fm sl st lf su pg pn ss ql qs qr hd fl ek ep ev er I (by omega)
    obtain ⟨r, u, v, R, hX, hY⟩ := ih (i + 1) c' nd1 es1 ls1 et1 co1 ca1 pc1 ra1 rb1 sp1 mk1 dp1 fc1 fa1 fb1 fm1 sl1 st1 lf1 su1 pg1 pn1 ss1 ql1 qs1 qr1 hd1 fl1 ek1 ep1 ev1 er1 I1 (by omega)
    refine ⟨r, u, v, R, fun post h => ?_, fun post h => ?_⟩
    · rw [wX_run_13]
      refine br_f z ⟨np + 1, hX1 post (wX_run_13 post (nI w) (d + 1)) (nI w) (nI i) ?_⟩
      rw [nI_1 i]
      exact hX post h
    · rw [wY_run_26]
      refine br_f z ⟨np + 1, hY1 post (wY_run_26 post (nI w) (d + 1)) (nI w) (nI i) ?_⟩
      rw [nI_1 i]
      exact hY post h
section
variable {np nd es : Nat} {ls et : Int32} {co ca pc ra rb sp mk dp fc fa fb fm sl st lf su pg pn ss ql qs qr hd fl ek ep ev er : Nat → Int32}
theorem sk_run (v1 : Int32) (I : sk_Inv np nd es pg pn ss dp ql qs hd sl mk fm) : ∃ r u v, sk_Rel np u v ∧ (∀ post : Int32 → SX → Prop, post r u → wpX_run post (nI np, nI nd, ls, et, nI es, co, ca, pc, ra, rb, sp, mk, dp, fc, fa, fb, fm, sl, st, lf, su, pg, ss, ql, qs, qr, hd, fl, ek, ep, ev, er) v1) ∧ (∀ post : Int32 → SY → Prop, post r v → wpY_run post (nI np, nI nd, ls, et, nI es, co, ca, pc, ra, rb, sp, mk, dp, sl, lf, su, ql, st, pn, ss, qs, qr, hd, fl, fc, fa, fb, fm, ek, ep, ev, er) v1) := by
  rcases pk_ix v1 (n := 65) (by decide) with h0 | h0 | ⟨w, hw, rfl⟩
  · obtain ⟨r, u, v, R, hX, hY⟩ := sk_outer (w := 0) (by decide) 0 0 0 nd es ls et co ca pc ra rb sp mk dp fc fa fb fm sl st lf su pg pn ss ql qs qr hd fl ek ep ev er I (by decide)
    have z : ¬ (0 : Int32) ≤ v1 := Int32.not_le.mpr h0
    refine ⟨r, u, v, R, fun post h => ?_, fun post h => ?_⟩
    · unfold wpX_run
      exact br_f z ⟨1, hX post h⟩
    · unfold wpY_run
      exact br_f z ⟨1, hY post h⟩
  · obtain ⟨r, u, v, R, hX, hY⟩ := sk_outer (w := 64) (by decide) 64 0 0 nd es ls et co ca pc ra rb sp mk dp fc fa fb fm sl st lf su pg pn ss ql qs qr hd fl ek ep ev er I (by decide)
    have z : (0 : Int32) ≤ v1 := Int32.le_trans (by decide) h0
    have z2 : ¬ v1 ≤ 64 := Int32.not_le.mpr (Int32.lt_of_lt_of_le (by decide) h0)
    refine ⟨r, u, v, R, fun post h => ?_, fun post h => ?_⟩
    · unfold wpX_run
      exact br_t z (br_f z2 ⟨65, hX post h⟩)
    · unfold wpY_run
      exact br_t z (br_f z2 ⟨65, hY post h⟩)
  · obtain ⟨r, u, v, R, hX, hY⟩ := sk_outer (w := w) (by omega) w 0 0 nd es ls et co ca pc ra rb sp mk dp fc fa fb fm sl st lf su pg pn ss ql qs qr hd fl ek ep ev er I (by omega)
    have z : (0 : Int32) ≤ nI w := nI_pos' (by omega)
    have z2 : nI w ≤ 64 := nI_le (b := 64) (by omega) (by decide)
    refine ⟨r, u, v, R, fun post h => ?_, fun post h => ?_⟩
    · unfold wpX_run
      exact br_t z (br_t z2 ⟨w + 1, hX post h⟩)
    · unfold wpY_run
      exact br_t z (br_t z2 ⟨w + 1, hY post h⟩)
theorem sk_poke (v1 v2 v3 v4 : Int32) (I : sk_Inv np nd es pg pn ss dp ql qs hd sl mk fm) : ∃ r u v, sk_Rel np u v ∧ (∀ post : Int32 → SX → Prop, post r u → wpX_poke post (nI np, nI nd, ls, et, nI es, co, ca, pc, ra, rb, sp, mk, dp, fc, fa, fb, fm, sl, st, lf, su, pg, ss, ql, qs, qr, hd, fl, ek, ep, ev, er) v1 v2 v3 v4) ∧ (∀ post : Int32 → SY → Prop, post r v → wpY_poke post (nI np, nI nd, ls, et, nI es, co, ca, pc, ra, rb, sp, mk, dp, sl, lf, su, ql, st, pn, ss, qs, qr, hd, fl, fc, fa, fb, fm, ek, ep, ev, er) v1 v2 v3 v4) := by
  have hn := sk_I_np I
  rcases pk_ix v1 (n := np) (by omega) with h1 | h1 | ⟨p, hp, rfl⟩
  · refine ⟨-3, (nI np, nI nd, ls, et, nI es, co, ca, pc, ra, rb, sp, mk, dp, fc, fa, fb, fm, sl, st, lf, su, pg, ss, ql, qs, qr, hd, fl, ek, ep, ev, er), (nI np, nI nd, ls, et, nI es, co, ca, pc, ra, rb, sp, mk, dp, sl, lf, su, ql, st, pn, ss, qs, qr, hd, fl, fc, fa, fb, fm, ek, ep, ev, er), sk_mk I, fun post h => ?_, fun post h => ?_⟩
    · unfold wpX_poke
      refine sx_pid0 (Or.inl h1) ?_
      exact br_t rfl h
    · unfold wpY_poke
      exact br_t h1 h
  · refine ⟨-3, (nI np, nI nd, ls, et, nI es, co, ca, pc, ra, rb, sp, mk, dp, fc, fa, fb, fm, sl, st, lf, su, pg, ss, ql, qs, qr, hd, fl, ek, ep, ev, er), (nI np, nI nd, ls, et, nI es, co, ca, pc, ra, rb, sp, mk, dp, sl, lf, su, ql, st, pn, ss, qs, qr, hd, fl, fc, fa, fb, fm, ek, ep, ev, er), sk_mk I, fun post h => ?_, fun post h => ?_⟩
    · unfold wpX_poke
      refine sx_pid0 (Or.inr h1) ?_
      exact br_t rfl h
    · unfold wpY_poke
      exact br_c (fun _ => h) fun _ => br_f (Int32.not_lt.mpr h1) h
  · have c1 : ¬ nI p < 0 := nI_pos (by omega)
    have c2 : nI p < nI np := nI_lt hp (by omega)
    rcases pk_ix v2 (n := 32) (by decide) with h2 | h2 | ⟨c, hc, rfl⟩
    · refine ⟨-22, (nI np, nI nd, ls, et, nI es, co, ca, pc, ra, rb, sp, mk, dp, fc, fa, fb, fm, sl, st, lf, su, pg, ss, ql, qs, qr, hd, fl, ek, ep, ev, er), (nI np, nI nd, ls, et, nI es, co, ca, pc, ra, rb, sp, mk, dp, sl, lf, su, ql, st, pn, ss, qs, qr, hd, fl, fc, fa, fb, fm, ek, ep, ev, er), sk_mk I, fun post h => ?_, fun post h => ?_⟩
      · unfold wpX_poke
        refine sx_pid1 hp hn ?_
        refine br_f (by decide) ?_
        refine sx_cell0 (Or.inl h2) ?_
        exact br_t rfl h
      · unfold wpY_poke
        exact br_f c1 (br_t c2 (br_t h2 h))
    · refine ⟨-22, (nI np, nI nd, ls, et, nI es, co, ca, pc, ra, rb, sp, mk, dp, fc, fa, fb, fm, sl, st, lf, su, pg, ss, ql, qs, qr, hd, fl, ek, ep, ev, er), (nI np, nI nd, ls, et, nI es, co, ca, pc, ra, rb, sp, mk, dp, sl, lf, su, ql, st, pn, ss, qs, qr, hd, fl, fc, fa, fb, fm, ek, ep, ev, er), sk_mk I, fun post h => ?_, fun post h => ?_⟩
      · unfold wpX_poke
        refine sx_pid1 hp hn ?_
        refine br_f (by decide) ?_
        refine sx_cell0 (Or.inr h2) ?_
        exact br_t rfl h
      · unfold wpY_poke
        exact br_f c1 (br_t c2 (br_c (fun _ => h) fun _ => br_t (Int32.lt_of_lt_of_le (by decide) h2) h))
    · have c3 : ¬ nI c < 0 := nI_pos (by omega)
      have c4 : ¬ 31 < nI c := nI_nlt (a := 31) (by omega) (by decide)
      by_cases h3 : v3 < 0
      · refine ⟨-22, (nI np, nI nd, ls, et, nI es, co, ca, pc, ra, rb, sp, mk, dp, fc, fa, fb, fm, sl, st, lf, su, pg, ss, ql, qs, qr, hd, fl, ek, ep, ev, er), (nI np, nI nd, ls, et, nI es, co, ca, pc, ra, rb, sp, mk, dp, sl, lf, su, ql, st, pn, ss, qs, qr, hd, fl, fc, fa, fb, fm, ek, ep, ev, er), sk_mk I, fun post h => ?_, fun post h => ?_⟩
        · unfold wpX_poke
          refine sx_pid1 hp hn ?_
          refine br_f (by decide) ?_
          refine sx_cell1 hc ?_
          exact br_f (by decide) (br_t h3 h)
        · unfold wpY_poke
          exact br_f c1 (br_t c2 (br_f c3 (br_f c4 (br_t h3 h))))
      by_cases h4 : v3 ≤ 15
      · have e3 : vp_in (nI (p * 32 + c)) 128 := vp_in_nI (by omega) (by decide)
        have e4 : (nI (p * 32 + c)).toNatClampNeg = p * 32 + c := nI_clamp (by omega)
        refine ⟨0, (nI np, nI nd, ls, et, nI es, upd co (p * 32 + c) v3, upd ca (p * 32 + c) v4, pc, ra, rb, sp, mk, dp, fc, fa, fb, fm, sl, st, lf, su, pg, ss, ql, qs, qr, hd, fl, ek, ep, ev, er), (nI np, nI nd, ls, et, nI es, upd co (p * 32 + c) v3, upd ca (p * 32 + c) v4, pc, ra, rb, sp, mk, dp, sl, lf, su, ql, st, pn, ss, qs, qr, hd, fl, fc, fa, fb, fm, ek, ep, ev, er), sk_mk I, fun post h => ?_, fun post h => ?_⟩
        · unfold wpX_poke
          refine sx_pid1 hp hn ?_
          refine br_f (by decide) ?_
          refine sx_cell1 hc ?_
          refine br_f (by decide) (br_f h3 (br_t h4 ?_))
          simp only [sk_ix32, e3, e4, true_implies, false_implies, not_true_eq_false, not_false_eq_true, and_true, true_and, forall_eq, implies_true]
          exact h
        · unfold wpY_poke
          refine br_f c1 (br_t c2 (br_f c3 (br_f c4 (br_f h3 (br_t h4 ?_)))))
          simp only [sk_ix32, e3, e4, true_implies, false_implies, not_true_eq_false, not_false_eq_true, and_true, true_and, forall_eq, implies_true]
          exact h
      · refine ⟨-22, (nI np, nI nd, ls, et, nI es, co, ca, pc, ra, rb, sp, mk, dp, fc, fa, fb, fm, sl, st, lf, su, pg, ss, ql, qs, qr, hd, fl, ek, ep, ev, er), (nI np, nI nd, ls, et, nI es, co, ca, pc, ra, rb, sp, mk, dp, sl, lf, su, ql, st, pn, ss, qs, qr, hd, fl, fc, fa, fb, fm, ek, ep, ev, er), sk_mk I, fun post h => ?_, fun post h => ?_⟩
        · unfold wpX_poke
          refine sx_pid1 hp hn ?_
          refine br_f (by decide) ?_
          refine sx_cell1 hc ?_
          exact br_f (by decide) (br_f h3 (br_f h4 h))
        · unfold wpY_poke
          exact br_f c1 (br_t c2 (br_f c3 (br_f c4 (br_f h3 (br_f h4 h)))))
theorem sk_seta (v1 v2 v3 v4 : Int32) (I : sk_Inv np nd es pg pn ss dp ql qs hd sl mk fm) : ∃ r u v, sk_Rel np u v ∧ (∀ post : Int32 → SX → Prop, post r u → wpX_setAction post (nI np, nI nd, ls, et, nI es, co, ca, pc, ra, rb, sp, mk, dp, fc, fa, fb, fm, sl, st, lf, su, pg, ss, ql, qs, qr, hd, fl, ek, ep, ev, er) v1 v2 v3 v4) ∧ (∀ post : Int32 → SY → Prop, post r v → wpY_setAction post (nI np, nI nd, ls, et, nI es, co, ca, pc, ra, rb, sp, mk, dp, sl, lf, su, ql, st, pn, ss, qs, qr, hd, fl, fc, fa, fb, fm, ek, ep, ev, er) v1 v2 v3 v4) := by
  have hn := sk_I_np I
  rcases pk_ix v1 (n := np) (by omega) with h1 | h1 | ⟨p, hp', rfl⟩
  · refine ⟨-3, (nI np, nI nd, ls, et, nI es, co, ca, pc, ra, rb, sp, mk, dp, fc, fa, fb, fm, sl, st, lf, su, pg, ss, ql, qs, qr, hd, fl, ek, ep, ev, er), (nI np, nI nd, ls, et, nI es, co, ca, pc, ra, rb, sp, mk, dp, sl, lf, su, ql, st, pn, ss, qs, qr, hd, fl, fc, fa, fb, fm, ek, ep, ev, er), sk_mk I, fun post h => ?_, fun post h => ?_⟩
    · unfold wpX_setAction
      refine sx_al0 (Or.inl h1) ?_
      exact br_t rfl h
    · unfold wpY_setAction
      exact br_t h1 h
  · refine ⟨-3, (nI np, nI nd, ls, et, nI es, co, ca, pc, ra, rb, sp, mk, dp, fc, fa, fb, fm, sl, st, lf, su, pg, ss, ql, qs, qr, hd, fl, ek, ep, ev, er), (nI np, nI nd, ls, et, nI es, co, ca, pc, ra, rb, sp, mk, dp, sl, lf, su, ql, st, pn, ss, qs, qr, hd, fl, fc, fa, fb, fm, ek, ep, ev, er), sk_mk I, fun post h => ?_, fun post h => ?_⟩
    · unfold wpX_setAction
      refine sx_al0 (Or.inr h1) ?_
      exact br_t rfl h
    · unfold wpY_setAction
      exact br_c (fun _ => h) fun _ => br_t h1 h
  · have hp : p < 4 := by omega
    have e1 : vp_in (nI p) 4 := vp_in_nI hp (by decide)
    have e2 : (nI p).toNatClampNeg = p := nI_clamp (by omega)
    have c1 : ¬ nI p < 0 := nI_pos (by omega)
    have c2 : ¬ nI np ≤ nI p := nI_ge hp' (by omega)
    by_cases hl : lf p = 0
    · rcases sk_cat v2 with hk | ⟨g, h1, hg, h9, h15, rfl⟩
      · refine ⟨-22, (nI np, nI nd, ls, et, nI es, co, ca, pc, ra, rb, sp, mk, dp, fc, fa, fb, fm, sl, st, lf, su, pg, ss, ql, qs, qr, hd, fl, ek, ep, ev, er), (nI np, nI nd, ls, et, nI es, co, ca, pc, ra, rb, sp, mk, dp, sl, lf, su, ql, st, pn, ss, qs, qr, hd, fl, fc, fa, fb, fm, ek, ep, ev, er), sk_mk I, fun post h => sx_seta0 hp' hn hl hk h, fun post h => ?_⟩
        unfold wpY_setAction
        refine br_f c1 (br_f c2 ⟨e1, br_t (by rw [e2]; exact hl) ?_⟩)
        refine sy_ok0 hk ?_
        exact br_t rfl h
      · rcases sk_hd v3 with hx | ⟨n1, n2, hx⟩
        · have hx' : v3 = -2 ∨ v3 = -1 ∨ 0 ≤ v3 := hx.imp_right fun z => z.imp_right fun ⟨j, hj, e⟩ => by rw [e]; exact nI_pos' (by omega)
          have e3 : vp_in (nI (p * 32 + g)) 128 := vp_in_nI (by omega) (by decide)
          have e4 : (nI (p * 32 + g)).toNatClampNeg = p * 32 + g := nI_clamp (by omega)
          refine ⟨hd (p * 32 + g), (nI np, nI nd, ls, et, nI es, co, ca, pc, ra, rb, sp, mk, dp, fc, fa, fb, fm, sl, st, lf, su, pg, ss, ql, qs, qr, upd hd (p * 32 + g) v3, upd fl (p * 32 + g) (v4 &&& 7), ek, ep, ev, er), (nI np, nI nd, ls, et, nI es, co, ca, pc, ra, rb, sp, mk, dp, sl, lf, su, ql, st, pn, ss, qs, qr, upd hd (p * 32 + g) v3, upd fl (p * 32 + g) (v4 &&& 7), fc, fa, fb, fm, ek, ep, ev, er), sk_mk (sk_I_hd hx' I), fun post h => sx_seta1 hp' hn hl h1 hg h9 h15 hx h, fun post h => ?_⟩
          unfold wpY_setAction
          refine br_f c1 (br_f c2 ⟨e1, br_t (by rw [e2]; exact hl) ?_⟩)
          refine sy_ok1 h1 hg h9 h15 hx ?_
          refine br_f (by decide) ?_
          simp only [sk_ix32, e3, e4, true_implies, false_implies, not_true_eq_false, not_false_eq_true, and_true, true_and, forall_eq, implies_true]
          exact h
        · refine ⟨-22, (nI np, nI nd, ls, et, nI es, co, ca, pc, ra, rb, sp, mk, dp, fc, fa, fb, fm, sl, st, lf, su, pg, ss, ql, qs, qr, hd, fl, ek, ep, ev, er), (nI np, nI nd, ls, et, nI es, co, ca, pc, ra, rb, sp, mk, dp, sl, lf, su, ql, st, pn, ss, qs, qr, hd, fl, fc, fa, fb, fm, ek, ep, ev, er), sk_mk I, fun post h => sx_seta2 hp' hn hl h1 hg h9 h15 n1 n2 hx h, fun post h => ?_⟩
          unfold wpY_setAction
          refine br_f c1 (br_f c2 ⟨e1, br_t (by rw [e2]; exact hl) ?_⟩)
          refine sy_ok2 h1 hg h9 h15 n1 n2 hx ?_
          exact br_t rfl h
    · refine ⟨-3, (nI np, nI nd, ls, et, nI es, co, ca, pc, ra, rb, sp, mk, dp, fc, fa, fb, fm, sl, st, lf, su, pg, ss, ql, qs, qr, hd, fl, ek, ep, ev, er), (nI np, nI nd, ls, et, nI es, co, ca, pc, ra, rb, sp, mk, dp, sl, lf, su, ql, st, pn, ss, qs, qr, hd, fl, fc, fa, fb, fm, ek, ep, ev, er), sk_mk I, fun post h => ?_, fun post h => ?_⟩
      · unfold wpX_setAction
        refine sx_al2 hp' hn hl ?_
        exact br_t rfl h
      · unfold wpY_setAction
        exact br_f c1 (br_f c2 ⟨e1, br_f (by rw [e2]; exact hl) h⟩)
end
