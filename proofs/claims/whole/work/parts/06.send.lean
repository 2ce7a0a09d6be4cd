theorem sk_sig (x : Int32) : (x < 1 ∨ 31 < x) ∨ ∃ g, 1 ≤ g ∧ g < 32 ∧ x = nI g := by
  rcases pk_ix x (n := 32) (by decide) with h | h | ⟨j, hj, rfl⟩
  · exact Or.inl (Or.inl (Int32.lt_trans h (by decide)))
  · exact Or.inl (Or.inr (Int32.lt_of_lt_of_le (by decide) h))
  · by_cases z : j = 0
    · subst z; exact Or.inl (Or.inl (by decide))
    · exact Or.inr ⟨j, by omega, hj, rfl⟩
theorem sx_sig1 {post : Int32 → Prop} {g : Nat} (h1 : 1 ≤ g) (hg : g < 32) (h : post 1) : wpX_isSignal post (nI g) :=
  br_f (nI_nlt (b := 1) h1 (by omega)) (br_f (nI_nlt (a := 31) (by omega) (by decide)) h)
theorem sx_sig0 {post : Int32 → Prop} {x : Int32} (hx : x < 1 ∨ 31 < x) (h : post 0) : wpX_isSignal post x :=
  br_c (fun _ => h) fun z => br_t (hx.resolve_left z) h
section
variable {np nd es : Nat} {ls et : Int32} {co ca pc ra rb sp mk dp fc fa fb fm sl st lf su pg pn ss ql qs qr hd fl ek ep ev er : Nat → Int32}
theorem sx_pid1 {post : Int32 → Prop} {p : Nat} (hp : p < np) (hn : np ≤ 4) (h : post 1) : wpX_isPid post (nI np, nI nd, ls, et, nI es, co, ca, pc, ra, rb, sp, mk, dp, fc, fa, fb, fm, sl, st, lf, su, pg, ss, ql, qs, qr, hd, fl, ek, ep, ev, er) (nI p) := by
  unfold wpX_isPid
  exact br_f (nI_pos (by omega)) (br_f (nI_ge hp (by omega)) h)
theorem sx_pid0 {post : Int32 → Prop} {x : Int32} (hx : x < 0 ∨ nI np ≤ x) (h : post 0) : wpX_isPid post (nI np, nI nd, ls, et, nI es, co, ca, pc, ra, rb, sp, mk, dp, fc, fa, fb, fm, sl, st, lf, su, pg, ss, ql, qs, qr, hd, fl, ek, ep, ev, er) x := by
  unfold wpX_isPid
  exact br_c (fun _ => h) fun z => br_t (hx.resolve_left z) h
theorem sx_al1 {post : Int32 → Prop} {p : Nat} (hp : p < np) (hn : np ≤ 4) (hl : lf p = 0) (h : post 1) : wpX_isAlive post (nI np, nI nd, ls, et, nI es, co, ca, pc, ra, rb, sp, mk, dp, fc, fa, fb, fm, sl, st, lf, su, pg, ss, ql, qs, qr, hd, fl, ek, ep, ev, er) (nI p) := by
  unfold wpX_isAlive
  refine sx_pid1 hp hn ?_
  exact br_f (by decide) ⟨vp_in_nI (by omega) (by decide), br_t (by rw [nI_clamp (by omega)]; exact hl) h⟩
theorem sx_al0 {post : Int32 → Prop} {x : Int32} (hx : x < 0 ∨ nI np ≤ x) (h : post 0) : wpX_isAlive post (nI np, nI nd, ls, et, nI es, co, ca, pc, ra, rb, sp, mk, dp, fc, fa, fb, fm, sl, st, lf, su, pg, ss, ql, qs, qr, hd, fl, ek, ep, ev, er) x := by
  unfold wpX_isAlive
  refine sx_pid0 hx ?_
  exact br_t rfl h
theorem sx_al2 {post : Int32 → Prop} {p : Nat} (hp : p < np) (hn : np ≤ 4) (hl : ¬ lf p = 0) (h : post 0) : wpX_isAlive post (nI np, nI nd, ls, et, nI es, co, ca, pc, ra, rb, sp, mk, dp, fc, fa, fb, fm, sl, st, lf, su, pg, ss, ql, qs, qr, hd, fl, ek, ep, ev, er) (nI p) := by
  unfold wpX_isAlive
  refine sx_pid1 hp hn ?_
  exact br_f (by decide) ⟨vp_in_nI (by omega) (by decide), br_f (by rw [nI_clamp (by omega)]; exact hl) h⟩
theorem sk_121 {p : Nat} (r z : Int32) (I : sk_Inv np nd es pg pn ss dp ql qs hd sl mk fm) : ∃ u v, sk_Rel np u v ∧ (∀ post : Int32 → SX → Prop, post r u → wX_send_121 post (nI p) z r (nI np) (nI nd) ls et (nI es) co ca pc ra rb sp mk dp fc fa fb fm sl st lf su pg ss ql qs qr hd fl ek ep ev er) ∧ (∀ post : Int32 → SY → Prop, post r v → wY_sendSig_258 post (nI p) z r (nI np) (nI nd) ls et (nI es) co ca pc ra rb sp mk dp sl lf su ql st pn ss qs qr hd fl fc fa fb fm ek ep ev er) := by
  by_cases hz : z = 0
  · exact ⟨(nI np, nI nd, ls, et, nI es, co, ca, pc, ra, rb, sp, mk, dp, fc, fa, fb, fm, sl, st, lf, su, pg, ss, ql, qs, qr, hd, fl, ek, ep, ev, er), (nI np, nI nd, ls, et, nI es, co, ca, pc, ra, rb, sp, mk, dp, sl, lf, su, ql, st, pn, ss, qs, qr, hd, fl, fc, fa, fb, fm, ek, ep, ev, er), sk_mk I, fun post h => br_t hz h, fun post h => br_t hz h⟩
  · refine ⟨(nI np, nI nd, ls, et + 1, nI (sk_lgN es), co, ca, pc, ra, rb, sp, mk, dp, fc, fa, fb, fm, sl, st, lf, su, pg, ss, ql, qs, qr, hd, fl, sk_lgA ek es 5, sk_lgA ep es (nI p), sk_lgA ev es 14, sk_lgA er es r), (nI np, nI nd, ls, et + 1, nI (sk_lgN es), co, ca, pc, ra, rb, sp, mk, dp, sl, lf, su, ql, st, pn, ss, qs, qr, hd, fl, fc, fa, fb, fm, sk_lgA ek es 5, sk_lgA ep es (nI p), sk_lgA ev es 14, sk_lgA er es r), sk_mk (sk_I_log I), fun post h => ?_, fun post h => ?_⟩
    · unfold wX_send_121
      refine br_f hz ?_
      refine sx_log (sk_I_es I) ?_
      exact h
    · unfold wY_sendSig_258
      refine br_f hz ?_
      refine sy_log (sk_I_es I) ?_
      exact h
theorem sk_100 {p g : Nat} (z : Int32) (I : sk_Inv np nd es pg pn ss dp ql qs hd sl mk fm) (hp : p < 4) (h1 : 1 ≤ g) (hg : g < 32) (hq : g < 16 ∨ ∃ l, l < 8 ∧ ql p = nI l) : ∃ r u v, sk_Rel np u v ∧ (∀ post : Int32 → SX → Prop, post r u → wX_send_100 post (nI p) (nI g) z (nI np) (nI nd) ls et (nI es) co ca pc ra rb sp mk dp fc fa fb fm sl st lf su pg ss ql qs qr hd fl ek ep ev er) ∧ (∀ post : Int32 → SY → Prop, post r v → wY_sendSig_147 post (nI p) (nI g) z (nI np) (nI nd) ls et (nI es) co ca pc ra rb sp mk dp sl lf su ql st pn ss qs qr hd fl fc fa fb fm ek ep ev er) := by
  have e1 : vp_in (nI p) 4 := vp_in_nI hp (by decide)
  have e2 : (nI p).toNatClampNeg = p := nI_clamp (by omega)
  by_cases g16 : g < 16
  · have a1 : nI g < 16 := nI_lt (b := 16) g16 (by decide)
    have a2 : ¬ 15 < nI g := nI_nlt (a := 15) (by omega) (by decide)
    have e3 : vp_in (nI (p * 16 + g)) 64 := vp_in_nI (by omega) (by decide)
    have e4 : (nI (p * 16 + g)).toNatClampNeg = p * 16 + g := nI_clamp (by omega)
    have hb := sk_PB_t (I.2.2.2.1 p hp) h1 g16
    by_cases y : pn (p * 16 + g) = 0
    · obtain ⟨u, v, R, hX, hY⟩ := sk_121 (np := np) (nd := nd) (ls := ls + 1) (et := et) (es := es) (co := co) (ca := ca) (pc := pc) (ra := ra) (rb := rb) (sp := sp) (mk := mk) (dp := dp) (fc := fc) (fa := fa) (fb := fb) (fm := fm) (sl := sl) (st := st) (lf := lf) (su := su) (pg := upd pg p (pg p ||| ((1 : Int32) <<< (nI g &&& 31)))) (ss := upd ss (p * 16 + g) (ls + 1)) (ql := ql) (qs := qs) (qr := qr) (hd := hd) (fl := fl) (ek := ek) (ep := ep) (ev := ev) (er := er) (pn := upd pn (p * 16 + g) 1) (p := p) (ls + 1) z (sk_I_mark h1 g16 I)
      refine ⟨ls + 1, u, v, R, fun post h => ?_, fun post h => ?_⟩
      · unfold wX_send_100
        refine br_t a1 ?_
        refine sx_mark1 hp g16 (hb.mpr y) ?_
        exact hX _ h
      · unfold wY_sendSig_147
        refine br_f a2 ⟨by rw [sk_ix16]; exact e3, br_t (by rw [sk_ix16, e4]; exact y) ?_⟩
        refine sy_serial ?_
        refine ⟨by rw [sk_ix16]; exact e3, nm_r (by rw [sk_ix16, e4, sk_nb1]) ⟨by rw [sk_ix16]; exact e3, nm_r (by rw [sk_ix16, e4]) ?_⟩⟩
        exact hY _ h
    · obtain ⟨u, v, R, hX, hY⟩ := sk_121 (np := np) (nd := nd) (ls := ls) (et := et) (es := es) (co := co) (ca := ca) (pc := pc) (ra := ra) (rb := rb) (sp := sp) (mk := mk) (dp := dp) (fc := fc) (fa := fa) (fb := fb) (fm := fm) (sl := sl) (st := st) (lf := lf) (su := su) (pg := pg) (ss := ss) (ql := ql) (qs := qs) (qr := qr) (hd := hd) (fl := fl) (ek := ek) (ep := ep) (ev := ev) (er := er) (pn := pn) (p := p) 0 z I
      refine ⟨0, u, v, R, fun post h => ?_, fun post h => ?_⟩
      · unfold wX_send_100
        refine br_t a1 ?_
        refine sx_mark0 hp (fun w => y (hb.mp w)) ?_
        exact hX _ h
      · unfold wY_sendSig_147
        refine br_f a2 ⟨by rw [sk_ix16]; exact e3, br_f (by rw [sk_ix16, e4]; exact y) ?_⟩
        exact hY _ h
  · have a1 : ¬ nI g < 16 := nI_nlt (b := 16) (by omega) (by omega)
    have a2 : 15 < nI g := nI_lt (a := 15) (by omega) (by omega)
    obtain ⟨l, hl, e⟩ := hq.resolve_left g16
    have e3 : vp_in (nI (p * 8 + l)) 32 := vp_in_nI (by omega) (by decide)
    have e4 : (nI (p * 8 + l)).toNatClampNeg = p * 8 + l := nI_clamp (by omega)
    obtain ⟨u, v, R, hX, hY⟩ := sk_121 (np := np) (nd := nd) (ls := ls + 1) (et := et) (es := es) (co := co) (ca := ca) (pc := pc) (ra := ra) (rb := rb) (sp := sp) (mk := mk) (dp := dp) (fc := fc) (fa := fa) (fb := fb) (fm := fm) (sl := sl) (st := st) (lf := lf) (su := su) (pg := pg) (ss := ss) (ql := upd ql p (nI (l + 1))) (qs := upd qs (p * 8 + l) (nI g)) (qr := upd qr (p * 8 + l) (ls + 1)) (hd := hd) (fl := fl) (ek := ek) (ep := ep) (ev := ev) (er := er) (pn := pn) (p := p) (ls + 1) z (sk_I_enq hp hl e h1 hg I)
    refine ⟨ls + 1, u, v, R, fun post h => ?_, fun post h => ?_⟩
    · unfold wX_send_100
      refine br_f a1 ?_
      refine sx_enq hp hl e ?_
      exact hX _ h
    · unfold wY_sendSig_147
      refine br_t a2 ?_
      refine sy_serial ?_
      refine ⟨e1, by rw [e2, e, sk_ix8]; exact e3, nm_r (by rw [e2, e, sk_ix8, e4]) ⟨e1, by rw [e2, e, sk_ix8]; exact e3, nm_r (by rw [e2, e, sk_ix8, e4]) ⟨e1, e1, nm_r (by rw [e2, e, nI_1]) ?_⟩⟩⟩
      exact hY _ h
theorem sx_opp14 {post : SX → Prop} {p : Nat} (hp : p < 4) (h : post (nI np, nI nd, ls, et, nI es, co, ca, pc, ra, rb, sp, mk, dp, fc, fa, fb, fm, sl, st, lf, su, upd (upd pg p (pg p &&& (((1 : Int32) <<< (nI 12 &&& 31)) ^^^ (-1)))) p ((upd pg p (pg p &&& (((1 : Int32) <<< (nI 12 &&& 31)) ^^^ (-1)))) p &&& (((1 : Int32) <<< (nI 15 &&& 31)) ^^^ (-1))), upd (upd ss (p * 16 + 12) 0) (p * 16 + 15) 0, ql, qs, qr, hd, fl, ek, ep, ev, er)) : wpX_dropOpposites post (nI np, nI nd, ls, et, nI es, co, ca, pc, ra, rb, sp, mk, dp, fc, fa, fb, fm, sl, st, lf, su, pg, ss, ql, qs, qr, hd, fl, ek, ep, ev, er) (nI p) 14 := by
  unfold wpX_dropOpposites
  refine br_f (by decide) (br_f (by decide) ?_)
  unfold wX_dropOpposites_19
  refine br_t rfl ?_
  refine sx_drop (s := 12) hp (by decide) ?_
  refine sx_drop (s := 15) hp (by decide) ?_
  exact h
theorem sk_41 {p g : Nat} (I : sk_Inv np nd es pg pn ss dp ql qs hd sl mk fm) (hp : p < 4) (h1 : 1 ≤ g) (hg : g < 32) (hq : g < 16 ∨ ∃ l, l < 8 ∧ ql p = nI l) : ∃ r u v, sk_Rel np u v ∧ (∀ post : Int32 → SX → Prop, post r u → wX_send_41 post (nI p) (nI g) (nI np) (nI nd) ls et (nI es) co ca pc ra rb sp mk dp fc fa fb fm sl st lf su pg ss ql qs qr hd fl ek ep ev er) ∧ (∀ post : Int32 → SY → Prop, post r v → wY_sendSig_58 post (nI p) (nI g) (nI np) (nI nd) ls et (nI es) co ca pc ra rb sp mk dp sl lf su ql st pn ss qs qr hd fl fc fa fb fm ek ep ev er) := by
  have e1 : vp_in (nI p) 4 := vp_in_nI hp (by decide)
  have e2 : (nI p).toNatClampNeg = p := nI_clamp (by omega)
  have hs := sk_I_es I
  by_cases g9 : g = 9
  · subst g9
    refine ⟨ls + 1, (nI np, nI nd, ls + 1, et + 1, nI (sk_lgN es), co, ca, pc, ra, rb, sp, mk, dp, fc, fa, fb, fm, upd sl p 0, upd st p 0, upd lf p 4, upd su p 9, upd pg p 0, sk_clr ss (p * 16) 16, upd ql p 0, qs, qr, hd, fl, sk_lgA ek es 2, sk_lgA ep es (nI p), sk_lgA ev es 9, sk_lgA er es (ls + 1)), (nI np, nI nd, ls + 1, et + 1, nI (sk_lgN es), co, ca, pc, ra, rb, sp, mk, dp, upd sl p 0, upd lf p 4, upd su p 9, upd ql p 0, upd st p 0, sk_clr pn (p * 16) 16, sk_clr ss (p * 16) 16, qs, qr, hd, fl, fc, fa, fb, fm, sk_lgA ek es 2, sk_lgA ep es (nI p), sk_lgA ev es 9, sk_lgA er es (ls + 1)), sk_mk (sk_I_log (sk_I_die I)), fun post h => ?_, fun post h => ?_⟩
    · unfold wX_send_41
      refine br_t rfl ?_
      refine sx_serial ?_
      refine sx_term hp hs ?_
      exact h
    · unfold wY_sendSig_58
      refine br_t rfl ?_
      refine sy_serial ?_
      refine sy_die hp ?_
      refine sy_log hs ?_
      exact h
  have a9 : ¬ nI g = 9 := fun z => g9 ((nI_eq (b := 9) (by omega) (by decide)).mp z)
  by_cases g12 : g = 12
  · subst g12
    obtain ⟨r, u, v, R, hX, hY⟩ := sk_100 (np := np) (nd := nd) (ls := ls) (et := et) (es := es) (co := co) (ca := ca) (pc := pc) (ra := ra) (rb := rb) (sp := sp) (mk := mk) (dp := dp) (fc := fc) (fa := fa) (fb := fb) (fm := fm) (sl := sl) (st := st) (lf := lf) (su := su) (pg := upd pg p (pg p &&& (((1 : Int32) <<< (nI 14 &&& 31)) ^^^ (-1)))) (ss := upd ss (p * 16 + 14) 0) (ql := ql) (qs := qs) (qr := qr) (hd := hd) (fl := fl) (ek := ek) (ep := ep) (ev := ev) (er := er) (pn := upd pn (p * 16 + 14) 0) (g := 12) 0 (sk_I_drop (s := 14) (by decide) I) hp h1 hg hq
    refine ⟨r, u, v, R, fun post h => ?_, fun post h => ?_⟩
    · unfold wX_send_41
      refine br_f a9 ?_
      refine sx_opp12 hp ?_
      refine br_f (by decide) ?_
      unfold wX_send_87 wX_send_88
      exact br_t rfl (hX _ h)
    · unfold wY_sendSig_58
      refine br_f a9 (br_t rfl ?_)
      unfold wY_sendSig_102
      refine sy_drop (s := 14) hp (by decide) ?_
      exact br_f (by decide) (hY _ h)
  have a12 : ¬ nI g = 12 := fun z => g12 ((nI_eq (b := 12) (by omega) (by decide)).mp z)
  by_cases g15 : g = 15
  · subst g15
    obtain ⟨r, u, v, R, hX, hY⟩ := sk_100 (np := np) (nd := nd) (ls := ls) (et := et) (es := es) (co := co) (ca := ca) (pc := pc) (ra := ra) (rb := rb) (sp := sp) (mk := mk) (dp := dp) (fc := fc) (fa := fa) (fb := fb) (fm := fm) (sl := sl) (st := st) (lf := lf) (su := su) (pg := upd pg p (pg p &&& (((1 : Int32) <<< (nI 14 &&& 31)) ^^^ (-1)))) (ss := upd ss (p * 16 + 14) 0) (ql := ql) (qs := qs) (qr := qr) (hd := hd) (fl := fl) (ek := ek) (ep := ep) (ev := ev) (er := er) (pn := upd pn (p * 16 + 14) 0) (g := 15) 0 (sk_I_drop (s := 14) (by decide) I) hp h1 hg hq
    refine ⟨r, u, v, R, fun post h => ?_, fun post h => ?_⟩
    · unfold wX_send_41
      refine br_f a9 ?_
      refine sx_opp15 hp ?_
      refine br_f (by decide) ?_
      unfold wX_send_87 wX_send_88
      exact br_t rfl (hX _ h)
    · unfold wY_sendSig_58
      refine br_f a9 (br_f a12 (br_t rfl ?_))
      unfold wY_sendSig_102
      refine sy_drop (s := 14) hp (by decide) ?_
      exact br_f (by decide) (hY _ h)
  have a15 : ¬ nI g = 15 := fun z => g15 ((nI_eq (b := 15) (by omega) (by decide)).mp z)
  by_cases g14 : g = 14
  · subst g14
    by_cases y : st p = 0
    · obtain ⟨r, u, v, R, hX, hY⟩ := sk_100 (np := np) (nd := nd) (ls := ls) (et := et) (es := es) (co := co) (ca := ca) (pc := pc) (ra := ra) (rb := rb) (sp := sp) (mk := mk) (dp := dp) (fc := fc) (fa := fa) (fb := fb) (fm := fm) (sl := sl) (st := st) (lf := lf) (su := su) (pg := upd (upd pg p (pg p &&& (((1 : Int32) <<< (nI 12 &&& 31)) ^^^ (-1)))) p ((upd pg p (pg p &&& (((1 : Int32) <<< (nI 12 &&& 31)) ^^^ (-1)))) p &&& (((1 : Int32) <<< (nI 15 &&& 31)) ^^^ (-1)))) (ss := upd (upd ss (p * 16 + 12) 0) (p * 16 + 15) 0) (ql := ql) (qs := qs) (qr := qr) (hd := hd) (fl := fl) (ek := ek) (ep := ep) (ev := ev) (er := er) (pn := upd (upd pn (p * 16 + 12) 0) (p * 16 + 15) 0) (g := 14) 0 (sk_I_drop (s := 15) (by decide) (sk_I_drop (s := 12) (by decide) I)) hp h1 hg hq
      refine ⟨r, u, v, R, fun post h => ?_, fun post h => ?_⟩
      · unfold wX_send_41
        refine br_f a9 ?_
        refine sx_opp14 hp ?_
        refine br_t rfl ⟨e1, br_t (by rw [e2]; exact y) ?_⟩
        unfold wX_send_87 wX_send_88
        exact br_t rfl (hX _ h)
      · unfold wY_sendSig_58
        refine br_f a9 (br_f a12 (br_f a15 ?_))
        unfold wY_sendSig_109
        refine br_t rfl ?_
        refine sy_drop (s := 12) hp (by decide) ?_
        refine sy_drop (s := 15) hp (by decide) ?_
        exact ⟨e1, br_t (by rw [e2]; exact y) (hY _ h)⟩
    · obtain ⟨r, u, v, R, hX, hY⟩ := sk_100 (np := np) (nd := nd) (ls := ls) (et := et) (es := es) (co := co) (ca := ca) (pc := pc) (ra := ra) (rb := rb) (sp := sp) (mk := mk) (dp := dp) (fc := fc) (fa := fa) (fb := fb) (fm := fm) (sl := sl) (st := upd st p 0) (lf := lf) (su := su) (pg := upd (upd pg p (pg p &&& (((1 : Int32) <<< (nI 12 &&& 31)) ^^^ (-1)))) p ((upd pg p (pg p &&& (((1 : Int32) <<< (nI 12 &&& 31)) ^^^ (-1)))) p &&& (((1 : Int32) <<< (nI 15 &&& 31)) ^^^ (-1)))) (ss := upd (upd ss (p * 16 + 12) 0) (p * 16 + 15) 0) (ql := ql) (qs := qs) (qr := qr) (hd := hd) (fl := fl) (ek := ek) (ep := ep) (ev := ev) (er := er) (pn := upd (upd pn (p * 16 + 12) 0) (p * 16 + 15) 0) (g := 14) 1 (sk_I_drop (s := 15) (by decide) (sk_I_drop (s := 12) (by decide) I)) hp h1 hg hq
      refine ⟨r, u, v, R, fun post h => ?_, fun post h => ?_⟩
      · unfold wX_send_41
        refine br_f a9 ?_
        refine sx_opp14 hp ?_
        refine br_t rfl ⟨e1, br_f (by rw [e2]; exact y) ?_⟩
        unfold wX_send_88
        exact br_f (by decide) ⟨e1, nm_r (by rw [e2, sk_nb0]) (hX _ h)⟩
      · unfold wY_sendSig_58
        refine br_f a9 (br_f a12 (br_f a15 ?_))
        unfold wY_sendSig_109
        refine br_t rfl ?_
        refine sy_drop (s := 12) hp (by decide) ?_
        refine sy_drop (s := 15) hp (by decide) ?_
        exact ⟨e1, br_f (by rw [e2]; exact y) ⟨e1, nm_r (by rw [e2, sk_nb0]) (hY _ h)⟩⟩
  have a14 : ¬ nI g = 14 := fun z => g14 ((nI_eq (b := 14) (by omega) (by decide)).mp z)
  obtain ⟨r, u, v, R, hX, hY⟩ := sk_100 (np := np) (nd := nd) (ls := ls) (et := et) (es := es) (co := co) (ca := ca) (pc := pc) (ra := ra) (rb := rb) (sp := sp) (mk := mk) (dp := dp) (fc := fc) (fa := fa) (fb := fb) (fm := fm) (sl := sl) (st := st) (lf := lf) (su := su) (pg := pg) (ss := ss) (ql := ql) (qs := qs) (qr := qr) (hd := hd) (fl := fl) (ek := ek) (ep := ep) (ev := ev) (er := er) (pn := pn) 0 I hp h1 hg hq
  refine ⟨r, u, v, R, fun post h => ?_, fun post h => ?_⟩
  · unfold wX_send_41
    refine br_f a9 ?_
    refine sx_oppN hg g12 g14 g15 ?_
    refine br_f a14 ?_
    unfold wX_send_87 wX_send_88
    exact br_t rfl (hX _ h)
  · unfold wY_sendSig_58
    refine br_f a9 (br_f a12 (br_f a15 ?_))
    unfold wY_sendSig_109
    exact br_f a14 (hY _ h)
theorem sk_send (dst sig : Int32) (I : sk_Inv np nd es pg pn ss dp ql qs hd sl mk fm) : ∃ r u v, sk_Rel np u v ∧ (∀ post : Int32 → SX → Prop, post r u → wpX_send post (nI np, nI nd, ls, et, nI es, co, ca, pc, ra, rb, sp, mk, dp, fc, fa, fb, fm, sl, st, lf, su, pg, ss, ql, qs, qr, hd, fl, ek, ep, ev, er) dst sig) ∧ (∀ post : Int32 → SY → Prop, post r v → wpY_sendSig post (nI np, nI nd, ls, et, nI es, co, ca, pc, ra, rb, sp, mk, dp, sl, lf, su, ql, st, pn, ss, qs, qr, hd, fl, fc, fa, fb, fm, ek, ep, ev, er) dst sig) := by
  have hn := sk_I_np I
  rcases sk_sig sig with hx | ⟨g, h1, hg, rfl⟩
  · refine ⟨-22, (nI np, nI nd, ls, et, nI es, co, ca, pc, ra, rb, sp, mk, dp, fc, fa, fb, fm, sl, st, lf, su, pg, ss, ql, qs, qr, hd, fl, ek, ep, ev, er), (nI np, nI nd, ls, et, nI es, co, ca, pc, ra, rb, sp, mk, dp, sl, lf, su, ql, st, pn, ss, qs, qr, hd, fl, fc, fa, fb, fm, ek, ep, ev, er), sk_mk I, fun post h => ?_, fun post h => ?_⟩
    · unfold wpX_send
      refine sx_sig0 hx ?_
      exact br_t rfl h
    · unfold wpY_sendSig
      exact br_c (fun _ => h) fun z => br_f (Int32.not_le.mpr (hx.resolve_left z)) h
  · have b1 : ¬ nI g < 1 := nI_nlt (b := 1) h1 (by omega)
    have b2 : nI g ≤ 31 := nI_le (b := 31) (by omega) (by decide)
    rcases pk_ix dst (n := np) (by omega) with hd' | hd' | ⟨p, hp, rfl⟩
    · refine ⟨-3, (nI np, nI nd, ls, et, nI es, co, ca, pc, ra, rb, sp, mk, dp, fc, fa, fb, fm, sl, st, lf, su, pg, ss, ql, qs, qr, hd, fl, ek, ep, ev, er), (nI np, nI nd, ls, et, nI es, co, ca, pc, ra, rb, sp, mk, dp, sl, lf, su, ql, st, pn, ss, qs, qr, hd, fl, fc, fa, fb, fm, ek, ep, ev, er), sk_mk I, fun post h => ?_, fun post h => ?_⟩
      · unfold wpX_send
        refine sx_sig1 h1 hg ?_
        refine br_f (by decide) ?_
        refine sx_al0 (Or.inl hd') ?_
        exact br_t rfl h
      · unfold wpY_sendSig
        exact br_f b1 (br_t b2 (br_t hd' h))
    · refine ⟨-3, (nI np, nI nd, ls, et, nI es, co, ca, pc, ra, rb, sp, mk, dp, fc, fa, fb, fm, sl, st, lf, su, pg, ss, ql, qs, qr, hd, fl, ek, ep, ev, er), (nI np, nI nd, ls, et, nI es, co, ca, pc, ra, rb, sp, mk, dp, sl, lf, su, ql, st, pn, ss, qs, qr, hd, fl, fc, fa, fb, fm, ek, ep, ev, er), sk_mk I, fun post h => ?_, fun post h => ?_⟩
      · unfold wpX_send
        refine sx_sig1 h1 hg ?_
        refine br_f (by decide) ?_
        refine sx_al0 (Or.inr hd') ?_
        exact br_t rfl h
      · unfold wpY_sendSig
        exact br_f b1 (br_t b2 (br_c (fun _ => h) fun _ => br_t hd' h))
    · have hp4 : p < 4 := by omega
      have e1 : vp_in (nI p) 4 := vp_in_nI hp4 (by decide)
      have e2 : (nI p).toNatClampNeg = p := nI_clamp (by omega)
      have c1 : ¬ nI p < 0 := nI_pos (by omega)
      have c2 : ¬ nI np ≤ nI p := nI_ge hp (by omega)
      by_cases hl : lf p = 0
      · obtain ⟨l, hl8, el, _⟩ := I.2.2.2.2.2.2.1 p hp4
        by_cases hq : g < 16
        · have q1 : nI g < 16 := nI_lt (b := 16) hq (by decide)
          obtain ⟨r, u, v, R, hX, hY⟩ := sk_41 (np := np) (nd := nd) (ls := ls) (et := et) (es := es) (co := co) (ca := ca) (pc := pc) (ra := ra) (rb := rb) (sp := sp) (mk := mk) (dp := dp) (fc := fc) (fa := fa) (fb := fb) (fm := fm) (sl := sl) (st := st) (lf := lf) (su := su) (pg := pg) (ss := ss) (ql := ql) (qs := qs) (qr := qr) (hd := hd) (fl := fl) (ek := ek) (ep := ep) (ev := ev) (er := er) (pn := pn) I hp4 h1 hg (Or.inl hq)
          refine ⟨r, u, v, R, fun post h => ?_, fun post h => ?_⟩
          · unfold wpX_send
            refine sx_sig1 h1 hg ?_
            refine br_f (by decide) ?_
            refine sx_al1 hp hn hl ?_
            exact br_f (by decide) (br_t q1 (hX _ h))
          · unfold wpY_sendSig
            exact br_f b1 (br_t b2 (br_f c1 (br_f c2 ⟨e1, br_t (by rw [e2]; exact hl) (br_t q1 (hY _ h))⟩)))
        · have q1 : ¬ nI g < 16 := nI_nlt (b := 16) (by omega) (by omega)
          by_cases hl7 : l < 8
          · have q2 : nI l < 8 := nI_lt (b := 8) hl7 (by decide)
            obtain ⟨r, u, v, R, hX, hY⟩ := sk_41 (np := np) (nd := nd) (ls := ls) (et := et) (es := es) (co := co) (ca := ca) (pc := pc) (ra := ra) (rb := rb) (sp := sp) (mk := mk) (dp := dp) (fc := fc) (fa := fa) (fb := fb) (fm := fm) (sl := sl) (st := st) (lf := lf) (su := su) (pg := pg) (ss := ss) (ql := ql) (qs := qs) (qr := qr) (hd := hd) (fl := fl) (ek := ek) (ep := ep) (ev := ev) (er := er) (pn := pn) I hp4 h1 hg (Or.inr ⟨l, hl7, el⟩)
            refine ⟨r, u, v, R, fun post h => ?_, fun post h => ?_⟩
            · unfold wpX_send
              refine sx_sig1 h1 hg ?_
              refine br_f (by decide) ?_
              refine sx_al1 hp hn hl ?_
              exact br_f (by decide) (br_f q1 ⟨e1, br_t (by rw [e2, el]; exact q2) (hX _ h)⟩)
            · unfold wpY_sendSig
              exact br_f b1 (br_t b2 (br_f c1 (br_f c2 ⟨e1, br_t (by rw [e2]; exact hl) (br_f q1 ⟨e1, br_t (by rw [e2, el]; exact q2) (hY _ h)⟩)⟩)))
          · have q2 : ¬ nI l < 8 := nI_nlt (b := 8) (by omega) (by omega)
            refine ⟨-11, (nI np, nI nd, ls, et, nI es, co, ca, pc, ra, rb, sp, mk, dp, fc, fa, fb, fm, sl, st, lf, su, pg, ss, ql, qs, qr, hd, fl, ek, ep, ev, er), (nI np, nI nd, ls, et, nI es, co, ca, pc, ra, rb, sp, mk, dp, sl, lf, su, ql, st, pn, ss, qs, qr, hd, fl, fc, fa, fb, fm, ek, ep, ev, er), sk_mk I, fun post h => ?_, fun post h => ?_⟩
            · unfold wpX_send
              refine sx_sig1 h1 hg ?_
              refine br_f (by decide) ?_
              refine sx_al1 hp hn hl ?_
              exact br_f (by decide) (br_f q1 ⟨e1, br_f (by rw [e2, el]; exact q2) h⟩)
            · unfold wpY_sendSig
              exact br_f b1 (br_t b2 (br_f c1 (br_f c2 ⟨e1, br_t (by rw [e2]; exact hl) (br_f q1 ⟨e1, br_f (by rw [e2, el]; exact q2) h⟩)⟩)))
      · refine ⟨-3, (nI np, nI nd, ls, et, nI es, co, ca, pc, ra, rb, sp, mk, dp, fc, fa, fb, fm, sl, st, lf, su, pg, ss, ql, qs, qr, hd, fl, ek, ep, ev, er), (nI np, nI nd, ls, et, nI es, co, ca, pc, ra, rb, sp, mk, dp, sl, lf, su, ql, st, pn, ss, qs, qr, hd, fl, fc, fa, fb, fm, ek, ep, ev, er), sk_mk I, fun post h => ?_, fun post h => ?_⟩
        · unfold wpX_send
          refine sx_sig1 h1 hg ?_
          refine br_f (by decide) ?_
          refine sx_al2 hp hn hl ?_
          exact br_t rfl h
        · unfold wpY_sendSig
          exact br_f b1 (br_t b2 (br_f c1 (br_f c2 ⟨e1, br_f (by rw [e2]; exact hl) h⟩)))
end
