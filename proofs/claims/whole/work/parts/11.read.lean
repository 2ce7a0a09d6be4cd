section
variable {np nd es : Nat} {ls et : Int32} {co ca pc ra rb sp mk dp fc fa fb fm sl st lf su pg pn ss ql qs qr hd fl ek ep ev er : Nat → Int32}
theorem sk_state (v1 : Int32) (I : sk_Inv np nd es pg pn ss dp ql qs hd sl mk fm) : ∃ r, (∀ post : Int32 → Prop, post r → wpX_state post (nI np, nI nd, ls, et, nI es, co, ca, pc, ra, rb, sp, mk, dp, fc, fa, fb, fm, sl, st, lf, su, pg, ss, ql, qs, qr, hd, fl, ek, ep, ev, er) v1) ∧ (∀ post : Int32 → Prop, post r → wpY_state post (nI np, nI nd, ls, et, nI es, co, ca, pc, ra, rb, sp, mk, dp, sl, lf, su, ql, st, pn, ss, qs, qr, hd, fl, fc, fa, fb, fm, ek, ep, ev, er) v1) := by
  have hn := sk_I_np I
  rcases pk_ix v1 (n := np) (by omega) with h1 | h1 | ⟨p, hp', rfl⟩
  · refine ⟨-1, fun post h => ?_, fun post h => ?_⟩
    · unfold wpX_state
      refine sx_pid0 (Or.inl h1) ?_
      exact br_t rfl h
    · unfold wpY_state
      exact br_t h1 h
  · refine ⟨-1, fun post h => ?_, fun post h => ?_⟩
    · unfold wpX_state
      refine sx_pid0 (Or.inr h1) ?_
      exact br_t rfl h
    · unfold wpY_state
      exact br_c (fun _ => h) fun _ => br_f (Int32.not_lt.mpr h1) h
  · have hp : p < 4 := by omega
    have e1 : vp_in (nI p) 4 := vp_in_nI hp (by decide)
    have c1 : ¬ nI p < 0 := nI_pos (by omega)
    have c2 : nI p < nI np := nI_lt hp' (by omega)
    have key : ∃ r, ∀ post : Int32 → Prop, post r → (vp_in (nI p) 4 ∧ ((((lf (nI p).toNatClampNeg) = 0 → (vp_in (nI p) 4 ∧ ((((st (nI p).toNatClampNeg) = 0 → (vp_in (nI p) 4 ∧ ((((sl (nI p).toNatClampNeg) ≤ 0 → (post 0)) ∧ (¬ (sl (nI p).toNatClampNeg) ≤ 0 → (post 1)))))) ∧ (¬ (st (nI p).toNatClampNeg) = 0 → (post 2)))))) ∧ (¬ (lf (nI p).toNatClampNeg) = 0 → (vp_in (nI p) 4 ∧ (post (lf (nI p).toNatClampNeg))))))) := by
      by_cases y1 : lf (nI p).toNatClampNeg = 0
      · by_cases y2 : st (nI p).toNatClampNeg = 0
        · by_cases y3 : sl (nI p).toNatClampNeg ≤ 0
          · exact ⟨0, fun post h => ⟨e1, br_t y1 ⟨e1, br_t y2 ⟨e1, br_t y3 h⟩⟩⟩⟩
          · exact ⟨1, fun post h => ⟨e1, br_t y1 ⟨e1, br_t y2 ⟨e1, br_f y3 h⟩⟩⟩⟩
        · exact ⟨2, fun post h => ⟨e1, br_t y1 ⟨e1, br_f y2 h⟩⟩⟩
      · exact ⟨_, fun post h => ⟨e1, br_f y1 ⟨e1, h⟩⟩⟩
    obtain ⟨r, hr⟩ := key
    refine ⟨r, fun post h => ?_, fun post h => ?_⟩
    · unfold wpX_state
      refine sx_pid1 hp' hn ?_
      exact br_f (by decide) (hr post h)
    · unfold wpY_state
      exact br_f c1 (br_t c2 (hr post h))
theorem sk_reg (v1 v2 : Int32) (I : sk_Inv np nd es pg pn ss dp ql qs hd sl mk fm) : ∃ r, (∀ post : Int32 → Prop, post r → wpX_reg post (nI np, nI nd, ls, et, nI es, co, ca, pc, ra, rb, sp, mk, dp, fc, fa, fb, fm, sl, st, lf, su, pg, ss, ql, qs, qr, hd, fl, ek, ep, ev, er) v1 v2) ∧ (∀ post : Int32 → Prop, post r → wpY_reg post (nI np, nI nd, ls, et, nI es, co, ca, pc, ra, rb, sp, mk, dp, sl, lf, su, ql, st, pn, ss, qs, qr, hd, fl, fc, fa, fb, fm, ek, ep, ev, er) v1 v2) := by
  have hn := sk_I_np I
  rcases pk_ix v1 (n := np) (by omega) with h1 | h1 | ⟨p, hp', rfl⟩
  · refine ⟨0, fun post h => ?_, fun post h => ?_⟩
    · unfold wpX_reg
      refine sx_pid0 (Or.inl h1) ?_
      exact br_t rfl h
    · unfold wpY_reg
      exact br_t h1 h
  · refine ⟨0, fun post h => ?_, fun post h => ?_⟩
    · unfold wpX_reg
      refine sx_pid0 (Or.inr h1) ?_
      exact br_t rfl h
    · unfold wpY_reg
      exact br_c (fun _ => h) fun _ => br_f (Int32.not_lt.mpr h1) h
  · have hp : p < 4 := by omega
    have e1 : vp_in (nI p) 4 := vp_in_nI hp (by decide)
    have e2 : (nI p).toNatClampNeg = p := nI_clamp (by omega)
    have c1 : ¬ nI p < 0 := nI_pos (by omega)
    have c2 : nI p < nI np := nI_lt hp' (by omega)
    have c3 : ¬ nI np ≤ nI p := nI_ge hp' (by omega)
    rcases pk_ix v2 (n := 10) (by decide) with h2 | h2 | ⟨j, hj, rfl⟩
    · have n0 : ¬ v2 = 0 := fun z => by rw [z] at h2; exact absurd h2 (by decide)
      have n1 : ¬ v2 = 1 := fun z => by rw [z] at h2; exact absurd h2 (by decide)
      have n2 : ¬ v2 = 2 := fun z => by rw [z] at h2; exact absurd h2 (by decide)
      have n3 : ¬ v2 = 3 := fun z => by rw [z] at h2; exact absurd h2 (by decide)
      have n4 : ¬ v2 = 4 := fun z => by rw [z] at h2; exact absurd h2 (by decide)
      have n5 : ¬ v2 = 5 := fun z => by rw [z] at h2; exact absurd h2 (by decide)
      have n6 : ¬ v2 = 6 := fun z => by rw [z] at h2; exact absurd h2 (by decide)
      have n7 : ¬ v2 = 7 := fun z => by rw [z] at h2; exact absurd h2 (by decide)
      have n8 : ¬ v2 = 8 := fun z => by rw [z] at h2; exact absurd h2 (by decide)
      have n9 : ¬ v2 = 9 := fun z => by rw [z] at h2; exact absurd h2 (by decide)
      refine ⟨0, fun post h => ?_, fun post h => ?_⟩
      · unfold wpX_reg
        refine sx_pid1 hp' hn ?_
        exact br_f (by decide) (br_t h2 h)
      · unfold wpY_reg
        exact br_f c1 (br_t c2 (br_f n0 (br_f n1 (br_f n2 (br_f n3 (br_f n4 (br_f n5 (br_f n6 (br_f n7 (br_f n8 (br_f n9 h)))))))))))
    · have n0 : ¬ v2 = 0 := fun z => by rw [z] at h2; exact absurd h2 (by decide)
      have n1 : ¬ v2 = 1 := fun z => by rw [z] at h2; exact absurd h2 (by decide)
      have n2 : ¬ v2 = 2 := fun z => by rw [z] at h2; exact absurd h2 (by decide)
      have n3 : ¬ v2 = 3 := fun z => by rw [z] at h2; exact absurd h2 (by decide)
      have n4 : ¬ v2 = 4 := fun z => by rw [z] at h2; exact absurd h2 (by decide)
      have n5 : ¬ v2 = 5 := fun z => by rw [z] at h2; exact absurd h2 (by decide)
      have n6 : ¬ v2 = 6 := fun z => by rw [z] at h2; exact absurd h2 (by decide)
      have n7 : ¬ v2 = 7 := fun z => by rw [z] at h2; exact absurd h2 (by decide)
      have n8 : ¬ v2 = 8 := fun z => by rw [z] at h2; exact absurd h2 (by decide)
      have n9 : ¬ v2 = 9 := fun z => by rw [z] at h2; exact absurd h2 (by decide)
      refine ⟨0, fun post h => ?_, fun post h => ?_⟩
      · unfold wpX_reg
        refine sx_pid1 hp' hn ?_
        exact br_f (by decide) (br_f (Int32.not_lt.mpr (Int32.le_trans (by decide) h2)) (br_t (Int32.lt_of_lt_of_le (by decide) h2) h))
      · unfold wpY_reg
        exact br_f c1 (br_t c2 (br_f n0 (br_f n1 (br_f n2 (br_f n3 (br_f n4 (br_f n5 (br_f n6 (br_f n7 (br_f n8 (br_f n9 h)))))))))))
    · have hcases : j = 0 ∨ j = 1 ∨ j = 2 ∨ j = 3 ∨ j = 4 ∨ j = 5 ∨ j = 6 ∨ j = 7 ∨ j = 8 ∨ j = 9 := by omega
      rcases hcases with rfl | rfl | rfl | rfl | rfl | rfl | rfl | rfl | rfl | rfl
      · refine ⟨pc p, fun post h => ?_, fun post h => ?_⟩
        · unfold wpX_reg
          refine sx_pid1 hp' hn ?_
          refine br_f (by decide) (br_f (by decide) (br_f (by decide) (br_t rfl ⟨e1, ?_⟩)))
          rw [e2]; exact h
        · unfold wpY_reg
          refine br_f c1 (br_t c2 (br_t rfl ⟨e1, ?_⟩))
          rw [e2]; exact h
      · refine ⟨ra p, fun post h => ?_, fun post h => ?_⟩
        · unfold wpX_reg
          refine sx_pid1 hp' hn ?_
          refine br_f (by decide) (br_f (by decide) (br_f (by decide) (br_f (by decide) (br_t rfl ⟨e1, ?_⟩))))
          rw [e2]; exact h
        · unfold wpY_reg
          refine br_f c1 (br_t c2 (br_f (by decide) (br_t rfl ⟨e1, ?_⟩)))
          rw [e2]; exact h
      · refine ⟨rb p, fun post h => ?_, fun post h => ?_⟩
        · unfold wpX_reg
          refine sx_pid1 hp' hn ?_
          refine br_f (by decide) (br_f (by decide) (br_f (by decide) (br_f (by decide) (br_f (by decide) (br_t rfl ⟨e1, ?_⟩)))))
          rw [e2]; exact h
        · unfold wpY_reg
          refine br_f c1 (br_t c2 (br_f (by decide) (br_f (by decide) (br_t rfl ⟨e1, ?_⟩))))
          rw [e2]; exact h
      · refine ⟨sp p, fun post h => ?_, fun post h => ?_⟩
        · unfold wpX_reg
          refine sx_pid1 hp' hn ?_
          refine br_f (by decide) (br_f (by decide) (br_f (by decide) (br_f (by decide) (br_f (by decide) (br_f (by decide) (br_t rfl ⟨e1, ?_⟩))))))
          rw [e2]; exact h
        · unfold wpY_reg
          refine br_f c1 (br_t c2 (br_f (by decide) (br_f (by decide) (br_f (by decide) (br_t rfl ⟨e1, ?_⟩)))))
          rw [e2]; exact h
      · refine ⟨mk p, fun post h => ?_, fun post h => ?_⟩
        · unfold wpX_reg
          refine sx_pid1 hp' hn ?_
          refine br_f (by decide) (br_f (by decide) (br_f (by decide) (br_f (by decide) (br_f (by decide) (br_f (by decide) (br_f (by decide) (br_t rfl ⟨e1, ?_⟩)))))))
          rw [e2]; exact h
        · unfold wpY_reg
          refine br_f c1 (br_t c2 (br_f (by decide) (br_f (by decide) (br_f (by decide) (br_f (by decide) (br_t rfl ⟨e1, ?_⟩))))))
          rw [e2]; exact h
      · refine ⟨dp p, fun post h => ?_, fun post h => ?_⟩
        · unfold wpX_reg
          refine sx_pid1 hp' hn ?_
          refine br_f (by decide) (br_f (by decide) (br_f (by decide) (br_f (by decide) (br_f (by decide) (br_f (by decide) (br_f (by decide) (br_f (by decide) (br_t rfl ⟨e1, ?_⟩))))))))
          rw [e2]; exact h
        · unfold wpY_reg
          refine br_f c1 (br_t c2 (br_f (by decide) (br_f (by decide) (br_f (by decide) (br_f (by decide) (br_f (by decide) (br_t rfl ⟨e1, ?_⟩)))))))
          rw [e2]; exact h
      · refine ⟨sl p, fun post h => ?_, fun post h => ?_⟩
        · unfold wpX_reg
          refine sx_pid1 hp' hn ?_
          refine br_f (by decide) (br_f (by decide) (br_f (by decide) (br_f (by decide) (br_f (by decide) (br_f (by decide) (br_f (by decide) (br_f (by decide) (br_f (by decide) (br_t rfl ⟨e1, ?_⟩)))))))))
          rw [e2]; exact h
        · unfold wpY_reg
          refine br_f c1 (br_t c2 (br_f (by decide) (br_f (by decide) (br_f (by decide) (br_f (by decide) (br_f (by decide) (br_f (by decide) (br_t rfl ⟨e1, ?_⟩))))))))
          rw [e2]; exact h
      · refine ⟨su p, fun post h => ?_, fun post h => ?_⟩
        · unfold wpX_reg
          refine sx_pid1 hp' hn ?_
          refine br_f (by decide) (br_f (by decide) (br_f (by decide) (br_f (by decide) (br_f (by decide) (br_f (by decide) (br_f (by decide) (br_f (by decide) (br_f (by decide) (br_f (by decide) (br_t rfl ⟨e1, ?_⟩))))))))))
          rw [e2]; exact h
        · unfold wpY_reg
          refine br_f c1 (br_t c2 (br_f (by decide) (br_f (by decide) (br_f (by decide) (br_f (by decide) (br_f (by decide) (br_f (by decide) (br_f (by decide) (br_t rfl ⟨e1, ?_⟩)))))))))
          rw [e2]; exact h
      · obtain ⟨l, hl8, el, _⟩ := I.2.2.2.2.2.2.1 p hp
        refine ⟨sk_orq (pg p) qs (p * 8) l, fun post h => ?_, fun post h => ?_⟩
        · unfold wpX_reg
          refine sx_pid1 hp' hn ?_
          refine br_f (by decide) (br_f (by decide) (br_f (by decide) (br_f (by decide) (br_f (by decide) (br_f (by decide) (br_f (by decide) (br_f (by decide) (br_f (by decide) (br_f (by decide) (br_f (by decide) (br_t rfl ?_)))))))))))
          exact sx_allp hp hl8 el h
        · unfold wpY_reg
          refine br_f c1 (br_t c2 (br_f (by decide) (br_f (by decide) (br_f (by decide) (br_f (by decide) (br_f (by decide) (br_f (by decide) (br_f (by decide) (br_f (by decide) (br_t rfl ?_))))))))))
          exact sy_pb hp hl8 el (I.2.2.2.1 p hp) h
      · refine ⟨ql p, fun post h => ?_, fun post h => ?_⟩
        · unfold wpX_reg
          refine sx_pid1 hp' hn ?_
          refine br_f (by decide) (br_f (by decide) (br_f (by decide) (br_f (by decide) (br_f (by decide) (br_f (by decide) (br_f (by decide) (br_f (by decide) (br_f (by decide) (br_f (by decide) (br_f (by decide) (br_f (by decide) (br_t rfl ⟨e1, ?_⟩))))))))))))
          rw [e2]; exact h
        · unfold wpY_reg
          refine br_f c1 (br_t c2 (br_f (by decide) (br_f (by decide) (br_f (by decide) (br_f (by decide) (br_f (by decide) (br_f (by decide) (br_f (by decide) (br_f (by decide) (br_f (by decide) (br_t rfl ⟨e1, ?_⟩)))))))))))
          rw [e2]; exact h
theorem sk_frame (v1 v2 v3 : Int32) (I : sk_Inv np nd es pg pn ss dp ql qs hd sl mk fm) : ∃ r, (∀ post : Int32 → Prop, post r → wpX_frame post (nI np, nI nd, ls, et, nI es, co, ca, pc, ra, rb, sp, mk, dp, fc, fa, fb, fm, sl, st, lf, su, pg, ss, ql, qs, qr, hd, fl, ek, ep, ev, er) v1 v2 v3) ∧ (∀ post : Int32 → Prop, post r → wpY_frame post (nI np, nI nd, ls, et, nI es, co, ca, pc, ra, rb, sp, mk, dp, sl, lf, su, ql, st, pn, ss, qs, qr, hd, fl, fc, fa, fb, fm, ek, ep, ev, er) v1 v2 v3) := by
  have hn := sk_I_np I
  rcases pk_ix v1 (n := np) (by omega) with h1 | h1 | ⟨p, hp', rfl⟩
  · refine ⟨0, fun post h => ?_, fun post h => ?_⟩
    · unfold wpX_frame
      refine sx_pid0 (Or.inl h1) ?_
      exact br_t rfl h
    · unfold wpY_frame
      exact br_t h1 h
  · refine ⟨0, fun post h => ?_, fun post h => ?_⟩
    · unfold wpX_frame
      refine sx_pid0 (Or.inr h1) ?_
      exact br_t rfl h
    · unfold wpY_frame
      exact br_c (fun _ => h) fun _ => br_t h1 h
  · have hp : p < 4 := by omega
    have e1 : vp_in (nI p) 4 := vp_in_nI hp (by decide)
    have e2 : (nI p).toNatClampNeg = p := nI_clamp (by omega)
    have c1 : ¬ nI p < 0 := nI_pos (by omega)
    have c2 : nI p < nI np := nI_lt hp' (by omega)
    have c3 : ¬ nI np ≤ nI p := nI_ge hp' (by omega)
    obtain ⟨d, hd4, ed⟩ := I.2.2.2.2.2.1 p hp
    rcases pk_ix v2 (n := d) (by omega) with h2 | h2 | ⟨i, hi, rfl⟩
    · refine ⟨0, fun post h => ?_, fun post h => ?_⟩
      · unfold wpX_frame
        refine sx_pid1 hp' hn ?_
        exact br_f (by decide) (br_t h2 h)
      · unfold wpY_frame
        exact br_f c1 (br_f c3 (br_t h2 h))
    · have h2' : ¬ v2 < dp (nI p).toNatClampNeg := by rw [e2, ed]; exact Int32.not_lt.mpr h2
      refine ⟨0, fun post h => ?_, fun post h => ?_⟩
      · unfold wpX_frame
        refine sx_pid1 hp' hn ?_
        exact br_f (by decide) (br_c (fun _ => h) fun _ => ⟨e1, br_f h2' h⟩)
      · unfold wpY_frame
        exact br_f c1 (br_f c3 (br_c (fun _ => h) fun _ => ⟨e1, br_f h2' h⟩))
    · have h2' : nI i < dp (nI p).toNatClampNeg := by rw [e2, ed]; exact nI_lt hi (by omega)
      have h20 : ¬ nI i < 0 := nI_pos (by omega)
      have e3 : vp_in (nI (p * 4 + i)) 16 := vp_in_nI (by omega) (by decide)
      have e4 : (nI (p * 4 + i)).toNatClampNeg = p * 4 + i := nI_clamp (by omega)
      rcases pk_ix v3 (n := 4) (by decide) with h3 | h3 | ⟨j, hj, rfl⟩
      · have n0 : ¬ v3 = 0 := fun z => by rw [z] at h3; exact absurd h3 (by decide)
        have n1 : ¬ v3 = 1 := fun z => by rw [z] at h3; exact absurd h3 (by decide)
        have n2 : ¬ v3 = 2 := fun z => by rw [z] at h3; exact absurd h3 (by decide)
        have n3 : ¬ v3 = 3 := fun z => by rw [z] at h3; exact absurd h3 (by decide)
        refine ⟨0, fun post h => ?_, fun post h => ?_⟩
        · unfold wpX_frame
          refine sx_pid1 hp' hn ?_
          exact br_f (by decide) (br_f h20 ⟨e1, br_t h2' (nm_e (br_t h3 h))⟩)
        · unfold wpY_frame
          exact br_f c1 (br_f c3 (br_f h20 ⟨e1, br_t h2' (nm_e (br_f n0 (br_f n1 (br_f n2 (br_f n3 h)))))⟩))
      · have n0 : ¬ v3 = 0 := fun z => by rw [z] at h3; exact absurd h3 (by decide)
        have n1 : ¬ v3 = 1 := fun z => by rw [z] at h3; exact absurd h3 (by decide)
        have n2 : ¬ v3 = 2 := fun z => by rw [z] at h3; exact absurd h3 (by decide)
        have n3 : ¬ v3 = 3 := fun z => by rw [z] at h3; exact absurd h3 (by decide)
        refine ⟨0, fun post h => ?_, fun post h => ?_⟩
        · unfold wpX_frame
          refine sx_pid1 hp' hn ?_
          exact br_f (by decide) (br_f h20 ⟨e1, br_t h2' (nm_e (br_f (Int32.not_lt.mpr (Int32.le_trans (by decide) h3)) (br_t (Int32.lt_of_lt_of_le (by decide) h3) h)))⟩)
        · unfold wpY_frame
          exact br_f c1 (br_f c3 (br_f h20 ⟨e1, br_t h2' (nm_e (br_f n0 (br_f n1 (br_f n2 (br_f n3 h)))))⟩))
      · have hcases : j = 0 ∨ j = 1 ∨ j = 2 ∨ j = 3 := by omega
        rcases hcases with rfl | rfl | rfl | rfl
        · refine ⟨fc (p * 4 + i), fun post h => ?_, fun post h => ?_⟩
          · unfold wpX_frame
            refine sx_pid1 hp' hn ?_
            refine br_f (by decide) (br_f h20 ⟨e1, br_t h2' (nm_r (sk_ix4 p i) (br_f (by decide) (br_f (by decide) (br_t rfl ⟨e3, ?_⟩))))⟩)
            rw [e4]; exact h
          · unfold wpY_frame
            refine br_f c1 (br_f c3 (br_f h20 ⟨e1, br_t h2' (nm_r (sk_ix4 p i) (br_t rfl ⟨e3, ?_⟩))⟩))
            rw [e4]; exact h
        · refine ⟨fa (p * 4 + i), fun post h => ?_, fun post h => ?_⟩
          · unfold wpX_frame
            refine sx_pid1 hp' hn ?_
            refine br_f (by decide) (br_f h20 ⟨e1, br_t h2' (nm_r (sk_ix4 p i) (br_f (by decide) (br_f (by decide) (br_f (by decide) (br_t rfl ⟨e3, ?_⟩)))))⟩)
            rw [e4]; exact h
          · unfold wpY_frame
            refine br_f c1 (br_f c3 (br_f h20 ⟨e1, br_t h2' (nm_r (sk_ix4 p i) (br_f (by decide) (br_t rfl ⟨e3, ?_⟩)))⟩))
            rw [e4]; exact h
        · refine ⟨fb (p * 4 + i), fun post h => ?_, fun post h => ?_⟩
          · unfold wpX_frame
            refine sx_pid1 hp' hn ?_
            refine br_f (by decide) (br_f h20 ⟨e1, br_t h2' (nm_r (sk_ix4 p i) (br_f (by decide) (br_f (by decide) (br_f (by decide) (br_f (by decide) (br_t rfl ⟨e3, ?_⟩))))))⟩)
            rw [e4]; exact h
          · unfold wpY_frame
            refine br_f c1 (br_f c3 (br_f h20 ⟨e1, br_t h2' (nm_r (sk_ix4 p i) (br_f (by decide) (br_f (by decide) (br_t rfl ⟨e3, ?_⟩))))⟩))
            rw [e4]; exact h
        · refine ⟨fm (p * 4 + i), fun post h => ?_, fun post h => ?_⟩
          · unfold wpX_frame
            refine sx_pid1 hp' hn ?_
            refine br_f (by decide) (br_f h20 ⟨e1, br_t h2' (nm_r (sk_ix4 p i) (br_f (by decide) (br_f (by decide) (br_f (by decide) (br_f (by decide) (br_f (by decide) (br_t rfl ⟨e3, ?_⟩)))))))⟩)
            rw [e4]; exact h
          · unfold wpY_frame
            refine br_f c1 (br_f c3 (br_f h20 ⟨e1, br_t h2' (nm_r (sk_ix4 p i) (br_f (by decide) (br_f (by decide) (br_f (by decide) (br_t rfl ⟨e3, ?_⟩)))))⟩))
            rw [e4]; exact h
theorem sk_queued (v1 v2 v3 : Int32) (I : sk_Inv np nd es pg pn ss dp ql qs hd sl mk fm) : ∃ r, (∀ post : Int32 → Prop, post r → wpX_queued post (nI np, nI nd, ls, et, nI es, co, ca, pc, ra, rb, sp, mk, dp, fc, fa, fb, fm, sl, st, lf, su, pg, ss, ql, qs, qr, hd, fl, ek, ep, ev, er) v1 v2 v3) ∧ (∀ post : Int32 → Prop, post r → wpY_queued post (nI np, nI nd, ls, et, nI es, co, ca, pc, ra, rb, sp, mk, dp, sl, lf, su, ql, st, pn, ss, qs, qr, hd, fl, fc, fa, fb, fm, ek, ep, ev, er) v1 v2 v3) := by
  have hn := sk_I_np I
  rcases pk_ix v1 (n := np) (by omega) with h1 | h1 | ⟨p, hp', rfl⟩
  · refine ⟨0, fun post h => ?_, fun post h => ?_⟩
    · unfold wpX_queued
      refine sx_pid0 (Or.inl h1) ?_
      exact br_t rfl h
    · unfold wpY_queued
      exact br_t h1 h
  · refine ⟨0, fun post h => ?_, fun post h => ?_⟩
    · unfold wpX_queued
      refine sx_pid0 (Or.inr h1) ?_
      exact br_t rfl h
    · unfold wpY_queued
      exact br_c (fun _ => h) fun _ => br_t h1 h
  · have hp : p < 4 := by omega
    have e1 : vp_in (nI p) 4 := vp_in_nI hp (by decide)
    have e2 : (nI p).toNatClampNeg = p := nI_clamp (by omega)
    have c1 : ¬ nI p < 0 := nI_pos (by omega)
    have c2 : nI p < nI np := nI_lt hp' (by omega)
    have c3 : ¬ nI np ≤ nI p := nI_ge hp' (by omega)
    obtain ⟨l, hl8, el, _⟩ := I.2.2.2.2.2.2.1 p hp
    rcases pk_ix v2 (n := l) (by omega) with h2 | h2 | ⟨i, hi, rfl⟩
    · refine ⟨0, fun post h => ?_, fun post h => ?_⟩
      · unfold wpX_queued
        refine sx_pid1 hp' hn ?_
        exact br_f (by decide) (br_t h2 h)
      · unfold wpY_queued
        exact br_f c1 (br_f c3 (br_t h2 h))
    · have h2' : ¬ v2 < ql (nI p).toNatClampNeg := by rw [e2, el]; exact Int32.not_lt.mpr h2
      refine ⟨0, fun post h => ?_, fun post h => ?_⟩
      · unfold wpX_queued
        refine sx_pid1 hp' hn ?_
        exact br_f (by decide) (br_c (fun _ => h) fun _ => ⟨e1, br_f h2' h⟩)
      · unfold wpY_queued
        exact br_f c1 (br_f c3 (br_c (fun _ => h) fun _ => ⟨e1, br_f h2' h⟩))
    · have h2' : nI i < ql (nI p).toNatClampNeg := by rw [e2, el]; exact nI_lt hi (by omega)
      have h20 : ¬ nI i < 0 := nI_pos (by omega)
      have e3 : vp_in (nI p * 8 + nI i) 32 := by rw [sk_ix8]; exact vp_in_nI (by omega) (by decide)
      by_cases f0 : v3 = 0
      · refine ⟨qs (nI p * 8 + nI i).toNatClampNeg, fun post h => ?_, fun post h => ?_⟩
        · unfold wpX_queued
          refine sx_pid1 hp' hn ?_
          exact br_f (by decide) (br_f h20 ⟨e1, br_t h2' (nm_e (br_t f0 ⟨e3, h⟩))⟩)
        · unfold wpY_queued
          exact br_f c1 (br_f c3 (br_f h20 ⟨e1, br_t h2' (br_t f0 ⟨e3, h⟩)⟩))
      by_cases f1 : v3 = 1
      · refine ⟨qr (nI p * 8 + nI i).toNatClampNeg, fun post h => ?_, fun post h => ?_⟩
        · unfold wpX_queued
          refine sx_pid1 hp' hn ?_
          exact br_f (by decide) (br_f h20 ⟨e1, br_t h2' (nm_e (br_f f0 (br_t f1 ⟨e3, h⟩)))⟩)
        · unfold wpY_queued
          exact br_f c1 (br_f c3 (br_f h20 ⟨e1, br_t h2' (br_f f0 (br_t f1 ⟨e3, h⟩))⟩))
      refine ⟨0, fun post h => ?_, fun post h => ?_⟩
      · unfold wpX_queued
        refine sx_pid1 hp' hn ?_
        exact br_f (by decide) (br_f h20 ⟨e1, br_t h2' (nm_e (br_f f0 (br_f f1 h)))⟩)
      · unfold wpY_queued
        exact br_f c1 (br_f c3 (br_f h20 ⟨e1, br_t h2' (br_f f0 (br_f f1 h))⟩))
theorem sk_pendingSerial (v1 v2 : Int32) (I : sk_Inv np nd es pg pn ss dp ql qs hd sl mk fm) : ∃ r, (∀ post : Int32 → Prop, post r → wpX_pendingSerial post (nI np, nI nd, ls, et, nI es, co, ca, pc, ra, rb, sp, mk, dp, fc, fa, fb, fm, sl, st, lf, su, pg, ss, ql, qs, qr, hd, fl, ek, ep, ev, er) v1 v2) ∧ (∀ post : Int32 → Prop, post r → wpY_pendingSerial post (nI np, nI nd, ls, et, nI es, co, ca, pc, ra, rb, sp, mk, dp, sl, lf, su, ql, st, pn, ss, qs, qr, hd, fl, fc, fa, fb, fm, ek, ep, ev, er) v1 v2) := by
  have hn := sk_I_np I
  rcases pk_ix v1 (n := np) (by omega) with h1 | h1 | ⟨p, hp', rfl⟩
  · refine ⟨0, fun post h => ?_, fun post h => ?_⟩
    · unfold wpX_pendingSerial
      refine sx_pid0 (Or.inl h1) ?_
      exact br_t rfl h
    · unfold wpY_pendingSerial
      exact br_t h1 h
  · refine ⟨0, fun post h => ?_, fun post h => ?_⟩
    · unfold wpX_pendingSerial
      refine sx_pid0 (Or.inr h1) ?_
      exact br_t rfl h
    · unfold wpY_pendingSerial
      exact br_c (fun _ => h) fun _ => br_t h1 h
  · have hp : p < 4 := by omega
    have e1 : vp_in (nI p) 4 := vp_in_nI hp (by decide)
    have e2 : (nI p).toNatClampNeg = p := nI_clamp (by omega)
    have c1 : ¬ nI p < 0 := nI_pos (by omega)
    have c2 : nI p < nI np := nI_lt hp' (by omega)
    have c3 : ¬ nI np ≤ nI p := nI_ge hp' (by omega)
    rcases pk_ix v2 (n := 16) (by decide) with h2 | h2 | ⟨g, hg, rfl⟩
    · have h2' : v2 < 1 := Int32.lt_trans h2 (by decide)
      refine ⟨0, fun post h => ?_, fun post h => ?_⟩
      · unfold wpX_pendingSerial
        refine sx_pid1 hp' hn ?_
        exact br_f (by decide) (br_t h2' h)
      · unfold wpY_pendingSerial
        exact br_f c1 (br_f c3 (br_t h2' h))
    · have h2' : ¬ v2 < 16 := Int32.not_lt.mpr h2
      have h3' : ¬ v2 ≤ 15 := Int32.not_le.mpr (Int32.lt_of_lt_of_le (by decide) h2)
      refine ⟨0, fun post h => ?_, fun post h => ?_⟩
      · unfold wpX_pendingSerial
        refine sx_pid1 hp' hn ?_
        exact br_f (by decide) (br_c (fun _ => h) fun _ => br_f h2' h)
      · unfold wpY_pendingSerial
        exact br_f c1 (br_f c3 (br_c (fun _ => h) fun _ => br_f h3' h))
    · by_cases g0 : g = 0
      · subst g0
        refine ⟨0, fun post h => ?_, fun post h => ?_⟩
        · unfold wpX_pendingSerial
          refine sx_pid1 hp' hn ?_
          exact br_f (by decide) (br_t (by decide) h)
        · unfold wpY_pendingSerial
          exact br_f c1 (br_f c3 (br_t (by decide) h))
      · have b1 : ¬ nI g < 1 := nI_nlt (b := 1) (by omega) (by omega)
        have b2 : nI g < 16 := nI_lt (b := 16) hg (by decide)
        have b3 : nI g ≤ 15 := nI_le (b := 15) (by omega) (by decide)
        have e3 : vp_in (nI p * 16 + nI g) 64 := by rw [sk_ix16]; exact vp_in_nI (by omega) (by decide)
        have e4 : (nI p * 16 + nI g).toNatClampNeg = p * 16 + g := by rw [sk_ix16]; exact nI_clamp (by omega)
        refine ⟨ss (p * 16 + g), fun post h => ?_, fun post h => ?_⟩
        · unfold wpX_pendingSerial
          refine sx_pid1 hp' hn ?_
          refine br_f (by decide) (br_f b1 (br_t b2 ⟨e3, ?_⟩))
          rw [e4]; exact h
        · unfold wpY_pendingSerial
          refine br_f c1 (br_f c3 (br_f b1 (br_t b3 ⟨e3, ?_⟩)))
          rw [e4]
          refine br_c (fun z => ?_) fun _ => ⟨e3, h⟩
          rw [I.2.2.2.2.1 _ z] at h
          exact h
theorem sk_getAction (v1 v2 v3 : Int32) (I : sk_Inv np nd es pg pn ss dp ql qs hd sl mk fm) : ∃ r, (∀ post : Int32 → Prop, post r → wpX_getAction post (nI np, nI nd, ls, et, nI es, co, ca, pc, ra, rb, sp, mk, dp, fc, fa, fb, fm, sl, st, lf, su, pg, ss, ql, qs, qr, hd, fl, ek, ep, ev, er) v1 v2 v3) ∧ (∀ post : Int32 → Prop, post r → wpY_getAction post (nI np, nI nd, ls, et, nI es, co, ca, pc, ra, rb, sp, mk, dp, sl, lf, su, ql, st, pn, ss, qs, qr, hd, fl, fc, fa, fb, fm, ek, ep, ev, er) v1 v2 v3) := by
  have hn := sk_I_np I
  rcases pk_ix v1 (n := np) (by omega) with h1 | h1 | ⟨p, hp', rfl⟩
  · refine ⟨0, fun post h => ?_, fun post h => ?_⟩
    · unfold wpX_getAction
      refine sx_pid0 (Or.inl h1) ?_
      exact br_t rfl h
    · unfold wpY_getAction
      exact br_t h1 h
  · refine ⟨0, fun post h => ?_, fun post h => ?_⟩
    · unfold wpX_getAction
      refine sx_pid0 (Or.inr h1) ?_
      exact br_t rfl h
    · unfold wpY_getAction
      exact br_c (fun _ => h) fun _ => br_t h1 h
  · have hp : p < 4 := by omega
    have e1 : vp_in (nI p) 4 := vp_in_nI hp (by decide)
    have e2 : (nI p).toNatClampNeg = p := nI_clamp (by omega)
    have c1 : ¬ nI p < 0 := nI_pos (by omega)
    have c2 : nI p < nI np := nI_lt hp' (by omega)
    have c3 : ¬ nI np ≤ nI p := nI_ge hp' (by omega)
    rcases sk_sig v2 with hx | ⟨g, h1, hg, rfl⟩
    · refine ⟨0, fun post h => ?_, fun post h => ?_⟩
      · unfold wpX_getAction
        refine sx_pid1 hp' hn ?_
        refine br_f (by decide) ?_
        refine sx_sig0 hx ?_
        exact br_t rfl h
      · unfold wpY_getAction
        exact br_f c1 (br_f c3 (br_c (fun _ => h) fun z => br_f (Int32.not_le.mpr (hx.resolve_left z)) h))
    · have b1 : ¬ nI g < 1 := nI_nlt (b := 1) h1 (by omega)
      have b2 : nI g ≤ 31 := nI_le (b := 31) (by omega) (by decide)
      have e3 : vp_in (nI p * 32 + nI g) 128 := by rw [sk_ix32]; exact vp_in_nI (by omega) (by decide)
      by_cases f0 : v3 = 0
      · refine ⟨hd (nI p * 32 + nI g).toNatClampNeg, fun post h => ?_, fun post h => ?_⟩
        · unfold wpX_getAction
          refine sx_pid1 hp' hn ?_
          refine br_f (by decide) ?_
          refine sx_sig1 h1 hg ?_
          exact br_f (by decide) (nm_e (br_t f0 ⟨e3, h⟩))
        · unfold wpY_getAction
          exact br_f c1 (br_f c3 (br_f b1 (br_t b2 (br_t f0 ⟨e3, h⟩))))
      by_cases f1 : v3 = 1
      · refine ⟨fl (nI p * 32 + nI g).toNatClampNeg, fun post h => ?_, fun post h => ?_⟩
        · unfold wpX_getAction
          refine sx_pid1 hp' hn ?_
          refine br_f (by decide) ?_
          refine sx_sig1 h1 hg ?_
          exact br_f (by decide) (nm_e (br_f f0 (br_t f1 ⟨e3, h⟩)))
        · unfold wpY_getAction
          exact br_f c1 (br_f c3 (br_f b1 (br_t b2 (br_f f0 (br_t f1 ⟨e3, h⟩)))))
      refine ⟨0, fun post h => ?_, fun post h => ?_⟩
      · unfold wpX_getAction
        refine sx_pid1 hp' hn ?_
        refine br_f (by decide) ?_
        refine sx_sig1 h1 hg ?_
        exact br_f (by decide) (nm_e (br_f f0 (br_f f1 h)))
      · unfold wpY_getAction
        exact br_f c1 (br_f c3 (br_f b1 (br_t b2 (br_f f0 (br_f f1 h)))))
theorem sk_logField (v1 v2 : Int32) (I : sk_Inv np nd es pg pn ss dp ql qs hd sl mk fm) : ∃ r, (∀ post : Int32 → Prop, post r → wpX_logField post (nI np, nI nd, ls, et, nI es, co, ca, pc, ra, rb, sp, mk, dp, fc, fa, fb, fm, sl, st, lf, su, pg, ss, ql, qs, qr, hd, fl, ek, ep, ev, er) v1 v2) ∧ (∀ post : Int32 → Prop, post r → wpY_logField post (nI np, nI nd, ls, et, nI es, co, ca, pc, ra, rb, sp, mk, dp, sl, lf, su, ql, st, pn, ss, qs, qr, hd, fl, fc, fa, fb, fm, ek, ep, ev, er) v1 v2) := by
  have hs := sk_I_es I
  rcases pk_ix v1 (n := es) (by omega) with h1 | h1 | ⟨i, hi, rfl⟩
  · refine ⟨0, fun post h => ?_, fun post h => ?_⟩
    · unfold wpX_logField
      exact br_t h1 h
    · unfold wpY_logField
      exact br_t h1 h
  · refine ⟨0, fun post h => ?_, fun post h => ?_⟩
    · unfold wpX_logField
      exact br_c (fun _ => h) fun _ => br_f (Int32.not_lt.mpr h1) h
    · unfold wpY_logField
      exact br_c (fun _ => h) fun _ => br_f (Int32.not_lt.mpr h1) h
  · have c1 : ¬ nI i < 0 := nI_pos (by omega)
    have c2 : nI i < nI es := nI_lt hi (by omega)
    have e3 : vp_in (nI i) 128 := vp_in_nI (by omega) (by decide)
    rcases pk_ix v2 (n := 4) (by decide) with h2 | h2 | ⟨j, hj, rfl⟩
    · have n0 : ¬ v2 = 0 := fun z => by rw [z] at h2; exact absurd h2 (by decide)
      have n1 : ¬ v2 = 1 := fun z => by rw [z] at h2; exact absurd h2 (by decide)
      have n2 : ¬ v2 = 2 := fun z => by rw [z] at h2; exact absurd h2 (by decide)
      have n3 : ¬ v2 = 3 := fun z => by rw [z] at h2; exact absurd h2 (by decide)
      refine ⟨0, fun post h => ?_, fun post h => ?_⟩
      · unfold wpX_logField
        exact br_f c1 (br_t c2 (br_t h2 h))
      · unfold wpY_logField
        exact br_f c1 (br_t c2 (br_f n0 (br_f n1 (br_f n2 (br_f n3 h)))))
    · have n0 : ¬ v2 = 0 := fun z => by rw [z] at h2; exact absurd h2 (by decide)
      have n1 : ¬ v2 = 1 := fun z => by rw [z] at h2; exact absurd h2 (by decide)
      have n2 : ¬ v2 = 2 := fun z => by rw [z] at h2; exact absurd h2 (by decide)
      have n3 : ¬ v2 = 3 := fun z => by rw [z] at h2; exact absurd h2 (by decide)
      refine ⟨0, fun post h => ?_, fun post h => ?_⟩
      · unfold wpX_logField
        exact br_f c1 (br_t c2 (br_f (Int32.not_lt.mpr (Int32.le_trans (by decide) h2)) (br_t (Int32.lt_of_lt_of_le (by decide) h2) h)))
      · unfold wpY_logField
        exact br_f c1 (br_t c2 (br_f n0 (br_f n1 (br_f n2 (br_f n3 h)))))
    · have hcases : j = 0 ∨ j = 1 ∨ j = 2 ∨ j = 3 := by omega
      rcases hcases with rfl | rfl | rfl | rfl
      · refine ⟨ek (nI i).toNatClampNeg, fun post h => ?_, fun post h => ?_⟩
        · unfold wpX_logField
          exact br_f c1 (br_t c2 (br_f (by decide) (br_f (by decide) (br_t rfl ⟨e3, h⟩))))
        · unfold wpY_logField
          exact br_f c1 (br_t c2 (br_t rfl ⟨e3, h⟩))
      · refine ⟨ep (nI i).toNatClampNeg, fun post h => ?_, fun post h => ?_⟩
        · unfold wpX_logField
          exact br_f c1 (br_t c2 (br_f (by decide) (br_f (by decide) (br_f (by decide) (br_t rfl ⟨e3, h⟩)))))
        · unfold wpY_logField
          exact br_f c1 (br_t c2 (br_f (by decide) (br_t rfl ⟨e3, h⟩)))
      · refine ⟨ev (nI i).toNatClampNeg, fun post h => ?_, fun post h => ?_⟩
        · unfold wpX_logField
          exact br_f c1 (br_t c2 (br_f (by decide) (br_f (by decide) (br_f (by decide) (br_f (by decide) (br_t rfl ⟨e3, h⟩))))))
        · unfold wpY_logField
          exact br_f c1 (br_t c2 (br_f (by decide) (br_f (by decide) (br_t rfl ⟨e3, h⟩))))
      · refine ⟨er (nI i).toNatClampNeg, fun post h => ?_, fun post h => ?_⟩
        · unfold wpX_logField
          exact br_f c1 (br_t c2 (br_f (by decide) (br_f (by decide) (br_f (by decide) (br_f (by decide) (br_f (by decide) (br_t rfl ⟨e3, h⟩)))))))
        · unfold wpY_logField
          exact br_f c1 (br_t c2 (br_f (by decide) (br_f (by decide) (br_f (by decide) (br_t rfl ⟨e3, h⟩)))))
theorem sx_i274 {post : SX → Prop} {f : Nat → Int32} (h : post (nI np, nI nd, ls, et, nI es, co, ca, pc, ra, rb, sp, mk, dp, fc, fa, fb, fm, sl, st, lf, su, pg, ss, ql, qs, qr, sk_fill f (-1) 128, fl, ek, ep, ev, er)) : ∀ d i, i + d = 128 → wX_init_274 post (nI np) (nI nd) ls et (nI es) (d + 1) (nI i) co ca pc ra rb sp mk dp fc fa fb fm sl st lf su pg ss ql qs qr (sk_fill f (-1) i) fl ek ep ev er := by
  intro d
  induction d with
  | zero =>
    intro i hi
    have hi' : i = 128 := by omega
    subst hi'
    rw [wX_init_274]
    exact br_t (by decide) h
  | succ d ih =>
    intro i hi
    have z : ¬ (128 : Int32) ≤ nI i := nI_ge (b := 128) (by omega) (by decide)
    rw [wX_init_274]
    refine br_f z ⟨vp_in_nI (by omega) (by decide), nm_r (by rw [nI_clamp (by omega)]) (nm_r (nI_1 i) ?_)⟩
    exact ih (i + 1) (by omega)
theorem sx_i253 {post : SX → Prop} {f g : Nat → Int32} (h : post (nI np, nI nd, ls, et, nI es, co, ca, pc, ra, rb, sk_fill g 64 4, mk, dp, fc, fa, fb, fm, sl, st, lf, su, pg, ss, ql, qs, qr, sk_fill f (-1) 128, fl, ek, ep, ev, er)) : ∀ d i, i + d = 4 → wX_init_253 post (nI np) (nI nd) ls et (nI es) (d + 1) (nI i) co ca pc ra rb (sk_fill g 64 i) mk dp fc fa fb fm sl st lf su pg ss ql qs qr f fl ek ep ev er := by
  intro d
  induction d with
  | zero =>
    intro i hi
    have hi' : i = 4 := by omega
    subst hi'
    rw [wX_init_253]
    exact br_t (by decide) ⟨129, sx_i274 h 128 0 rfl⟩
  | succ d ih =>
    intro i hi
    have z : ¬ (4 : Int32) ≤ nI i := nI_ge (b := 4) (by omega) (by decide)
    rw [wX_init_253]
    refine br_f z ⟨vp_in_nI (by omega) (by decide), nm_r (by rw [nI_clamp (by omega)]) (nm_r (nI_1 i) ?_)⟩
    exact ih (i + 1) (by omega)
theorem sy_i287 {post : SY → Prop} {g : Nat → Int32} (h : post (nI np, nI nd, ls, et, nI es, co, ca, pc, ra, rb, sk_fill g 64 4, mk, dp, sl, lf, su, ql, st, pn, ss, qs, qr, hd, fl, fc, fa, fb, fm, ek, ep, ev, er)) : ∀ d i, i + d = 4 → wY_init_287 post (nI np) (nI nd) ls et (nI es) (d + 1) (nI i) co ca pc ra rb (sk_fill g 64 i) mk dp sl lf su ql st pn ss qs qr hd fl fc fa fb fm ek ep ev er := by
  intro d
  induction d with
  | zero =>
    intro i hi
    have hi' : i = 4 := by omega
    subst hi'
    rw [wY_init_287]
    exact br_t (by decide) h
  | succ d ih =>
    intro i hi
    have z : ¬ (4 : Int32) ≤ nI i := nI_ge (b := 4) (by omega) (by decide)
    rw [wY_init_287]
    refine br_f z ⟨vp_in_nI (by omega) (by decide), nm_r (by rw [nI_clamp (by omega)]) (nm_r (nI_1 i) ?_)⟩
    exact ih (i + 1) (by omega)
theorem sy_i265 {post : SY → Prop} {f g : Nat → Int32} (h : post (nI np, nI nd, ls, et, nI es, co, ca, pc, ra, rb, sk_fill g 64 4, mk, dp, sl, lf, su, ql, st, pn, ss, qs, qr, sk_fill f (-1) 128, fl, fc, fa, fb, fm, ek, ep, ev, er)) : ∀ d i, i + d = 128 → wY_init_265 post (nI np) (nI nd) ls et (nI es) (d + 1) (nI i) co ca pc ra rb g mk dp sl lf su ql st pn ss qs qr (sk_fill f (-1) i) fl fc fa fb fm ek ep ev er := by
  intro d
  induction d with
  | zero =>
    intro i hi
    have hi' : i = 128 := by omega
    subst hi'
    rw [wY_init_265]
    exact br_t (by decide) ⟨5, sy_i287 h 4 0 rfl⟩
  | succ d ih =>
    intro i hi
    have z : ¬ (128 : Int32) ≤ nI i := nI_ge (b := 128) (by omega) (by decide)
    rw [wY_init_265]
    refine br_f z ⟨vp_in_nI (by omega) (by decide), nm_r (by rw [nI_clamp (by omega)]) (nm_r (nI_1 i) ?_)⟩
    exact ih (i + 1) (by omega)
end
theorem sk_clamp (x : Int32) : ∃ n, 1 ≤ n ∧ n ≤ 4 ∧ ∀ post : Int32 → Prop, post (nI n) → wpX_clamp post x 1 4 := by
  rcases pk_ix x (n := 5) (by decide) with h | h | ⟨j, hj, rfl⟩
  · exact ⟨1, by decide, by decide, fun post hp => br_f (Int32.not_le.mpr (Int32.lt_trans h (by decide))) hp⟩
  · exact ⟨4, by decide, by decide, fun post hp => br_t (Int32.le_trans (by decide) h) (br_f (Int32.not_le.mpr (Int32.lt_of_lt_of_le (by decide) h)) hp)⟩
  · by_cases z : j = 0
    · subst z
      exact ⟨1, by decide, by decide, fun post hp => br_f (by decide) hp⟩
    · exact ⟨j, by omega, by omega, fun post hp => br_t (nI_le (a := 1) (by omega) (by omega)) (br_t (nI_le (b := 4) (by omega) (by decide)) hp)⟩
