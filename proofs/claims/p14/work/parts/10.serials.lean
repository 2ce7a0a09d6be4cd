theorem ts_nf {x : Bool} (h : ¬ x = false) : x = true := by cases x <;> first | rfl | exact absurd rfl h
theorem ts_nt {x : Bool} (h : ¬ x = true) : x = false := by cases x <;> first | rfl | exact absurd rfl h
theorem ts_bit {w : Int64} {s : UInt64} {j : Nat} (hj : j < 64) (hs : s.toNat = j) : ((w.toUInt64 >>> s).toInt64 &&& 1) = 0 ↔ w.toBitVec.getLsbD j = false := by
  have e : (w.toUInt64 >>> s).toInt64.toBitVec = w.toBitVec >>> j := by
    apply BitVec.eq_of_toNat_eq
    show (w.toUInt64 >>> s).toNat = _
    rw [UInt64.toNat_shiftRight, hs, Nat.mod_eq_of_lt hj, BitVec.toNat_ushiftRight]
    rfl
  rw [← Int64.toBitVec_inj, Int64.toBitVec_and, e]
  show w.toBitVec >>> j &&& 1#64 = 0#64 ↔ _
  constructor
  · intro h
    have t := congrArg (fun x => x.getLsbD 0) h
    simpa using t
  · intro h
    apply BitVec.eq_of_getLsbD_eq
    intro i hi
    cases i with
    | zero => simp [h]
    | succ i => simp
theorem ts_or {w m : Int64} {j : Nat} (hj : j < 64) (hm : m.toBitVec = BitVec.twoPow 64 j) : (w ||| m) = w ↔ w.toBitVec.getLsbD j = true := by
  rw [← Int64.toBitVec_inj, Int64.toBitVec_or, hm]
  constructor
  · intro h
    have t := congrArg (fun x => x.getLsbD j) h
    simp only [BitVec.getLsbD_or, BitVec.getLsbD_twoPow] at t
    simpa [hj] using t.symm
  · intro h
    apply BitVec.eq_of_getLsbD_eq
    intro i hi
    rw [BitVec.getLsbD_or, BitVec.getLsbD_twoPow]
    by_cases e : j = i
    · subst e; rw [h, Bool.true_or]
    · simp [e]
theorem ts_and {w m : Int64} {j : Nat} (hj : j < 64) (hm : m.toBitVec = BitVec.twoPow 64 j) : (w &&& (m ^^^ (-1))) = w ↔ w.toBitVec.getLsbD j = false := by
  have ha : (-1 : Int64).toBitVec = BitVec.allOnes 64 := by decide
  rw [← Int64.toBitVec_inj, Int64.toBitVec_and, Int64.toBitVec_xor, hm, ha]
  constructor
  · intro h
    have t := congrArg (fun x => x.getLsbD j) h
    simp only [BitVec.getLsbD_and, BitVec.getLsbD_xor, BitVec.getLsbD_twoPow, BitVec.getLsbD_allOnes] at t
    simpa [hj] using t.symm
  · intro h
    apply BitVec.eq_of_getLsbD_eq
    intro i hi
    rw [BitVec.getLsbD_and, BitVec.getLsbD_xor, BitVec.getLsbD_twoPow, BitVec.getLsbD_allOnes]
    by_cases e : j = i
    · subst e; rw [h, Bool.false_and]
    · simp [e, hi]
theorem wb_tb (n : Nat) : (lN n).toBitVec = BitVec.ofNat 64 n := rfl
theorem wb_inj {a b : Int64} (h : a.toBitVec = b.toBitVec) : a = b := Int64.toBitVec_inj.mp h
theorem wb_cu : ∀ k, k < 64 → ((nI k).toInt64.toUInt64 &&& Int64.toUInt64 63) = UInt64.ofNat k := by decide +kernel
theorem u_tn {n : Nat} (h : n < 2 ^ 64) : (UInt64.ofNat n).toNat = n := Nat.mod_eq_of_lt h
theorem nf_sl : ∀ l, l < 32 → (((nI l).toUInt32 &&& Int32.toUInt32 31).toBitVec % 32).toNat = l := by decide +kernel
theorem nf_bit (m : Int32) (l : Nat) (hl : l < 32) : ((m.toUInt32 >>> ((nI l).toUInt32 &&& Int32.toUInt32 31)).toInt32 &&& 1) = 0 ↔ (m &&& ((1 : Int32) <<< (nI l &&& 31))) = 0 := by
  have e : ((m.toUInt32 >>> ((nI l).toUInt32 &&& Int32.toUInt32 31)).toInt32).toBitVec = m.toBitVec >>> l := by
    show m.toBitVec >>> (((nI l).toUInt32 &&& Int32.toUInt32 31).toBitVec % 32) = m.toBitVec >>> l
    rw [BitVec.ushiftRight_eq', nf_sl l hl]
  rw [← Int32.toBitVec_inj, ← Int32.toBitVec_inj, Int32.toBitVec_and, Int32.toBitVec_and, nf_sh l hl, e, BitVec.and_twoPow]
  show (m.toBitVec >>> l &&& 1#32) = 0#32 ↔ _ = 0#32
  rw [BitVec.and_one_eq_setWidth_ofBool_getLsbD, BitVec.getLsbD_ushiftRight, Nat.add_zero]
  cases hb : m.toBitVec.getLsbD l
  · exact ⟨fun _ => by simp, fun _ => by decide⟩
  · exact ⟨fun z => absurd z (by decide), fun z => absurd ((if_pos rfl).symm.trans z) (nf_tp l hl)⟩
/-- serial s is in the set x -/
def pv_B (x : Int64) (s : Nat) : Prop := x.toBitVec.getLsbD s = true
theorem pv_B_0 (s : Nat) : ¬ pv_B 0 s := by
  unfold pv_B
  show ¬ (0#64).getLsbD s = true
  simp
theorem pv_B_lt {x : Int64} {s : Nat} (h : pv_B x s) : s < 64 := by
  rcases Nat.lt_or_ge s 64 with z | z
  · exact z
  · unfold pv_B at h
    rw [BitVec.getLsbD_of_ge _ _ z] at h
    exact absurd h (by decide)
theorem pv_B_or (x y : Int64) (s : Nat) : pv_B (x ||| y) s ↔ pv_B x s ∨ pv_B y s := by
  unfold pv_B
  rw [Int64.toBitVec_or, BitVec.getLsbD_or, Bool.or_eq_true]
theorem pv_sh : ∀ r, r < 64 → ((1 : Int64) <<< ((nI r).toInt64 &&& 63)).toBitVec = BitVec.twoPow 64 r := by decide +kernel
theorem pv_B_sh {r : Nat} (hr : r < 64) (s : Nat) : pv_B ((1 : Int64) <<< ((nI r).toInt64 &&& 63)) s ↔ s = r := by
  unfold pv_B
  rw [pv_sh r hr, BitVec.getLsbD_twoPow, decide_eq_true hr, Bool.true_and, decide_eq_true_eq]
  exact ⟨Eq.symm, Eq.symm⟩
theorem pv_has {post : Int32 → Prop} {x : Int64} {s : Nat} (hs : s < 64) (h1 : 1 ≤ s → pv_B x s → post 1) (h0 : (s = 0 ∨ ¬ pv_B x s) → post 0) : wpL_has post () x (nI s) := by
  by_cases z : s = 0
  · subst z
    exact br_t (by decide) (h0 (Or.inl rfl))
  · have hb : ((x.toUInt64 >>> ((nI s).toInt64.toUInt64 &&& Int64.toUInt64 63)).toInt64 &&& 1) = 0 ↔ x.toBitVec.getLsbD s = false := by
      rw [wb_cu s hs]
      exact ts_bit hs (u_tn (by omega))
    refine br_f (nI_nle (by omega) (by omega)) (br_f (nI_ge (b := 64) hs (by decide)) (br_c (fun y => h0 (Or.inr fun y' => ?_)) fun y => h1 (by omega) ?_))
    · have := hb.mp y
      unfold pv_B at y'
      rw [this] at y'
      exact absurd y' (by decide)
    · exact ts_nf fun y' => y (hb.mpr y')
theorem sx_del {post : Int32 → Prop} {k : Int32} (h1 : pv_dl k → post 1) (h0 : ¬ pv_dl k → post 0) : wpL_isDel post () k :=
  br_c (fun z => h1 (Or.inl z)) fun n1 => br_c (fun z => h1 (Or.inr (Or.inl z))) fun n2 => br_c (fun z => h1 (Or.inr (Or.inr (Or.inl z)))) fun n3 => br_c (fun z => h1 (Or.inr (Or.inr (Or.inr z)))) fun n4 => h0 fun y => y.elim n1 fun y => y.elim n2 fun y => y.elim n3 n4
/-- how many of the n places from b on hold serial s -/
def pv_cq (f : Nat → Int32) (b s : Nat) : Nat → Nat
  | 0 => 0
  | n + 1 => pv_cq f b s n + (if f (b + n) = nI s then 1 else 0)
theorem pv_cq_0 {f : Nat → Int32} {b s : Nat} : ∀ n, (∀ j, j < n → ¬ f (b + j) = nI s) → pv_cq f b s n = 0 := by
  intro n
  induction n with
  | zero => intro _; rfl
  | succ n ih =>
    intro h
    simp only [pv_cq, if_neg (h n (by omega)), ih fun j hj => h j (by omega)]
theorem pv_cq_1 {f : Nat → Int32} {b s j0 : Nat} : ∀ n, j0 < n → f (b + j0) = nI s → (∀ j, j < n → j ≠ j0 → ¬ f (b + j) = nI s) → pv_cq f b s n = 1 := by
  intro n
  induction n with
  | zero => intro h; omega
  | succ n ih =>
    intro hj e h
    by_cases z : j0 = n
    · subst z
      simp only [pv_cq, if_pos e, pv_cq_0 j0 fun j hj' => h j (by omega) (by omega)]
    · simp only [pv_cq, if_neg (h n (by omega) (fun y => z y.symm)), ih (by omega) e fun j hj' hn => h j (by omega) hn]
section
variable {nd es : Nat} {ls et : Int32} {co ca pc ra rb sp mk dp fc fa fb fm sl st lf su pg ss ql qs qr hd fl ek ep ev er : Nat → Int32}
variable {m L : Nat}
theorem sx_lt {post : Int32 → Prop} (h : post et) : wpX_logTotal post (nI 2, nI nd, ls, et, nI es, co, ca, pc, ra, rb, sp, mk, dp, fc, fa, fb, fm, sl, st, lf, su, pg, ss, ql, qs, qr, hd, fl, ek, ep, ev, er) := h
theorem sx_lf0 {post : Int32 → Prop} {i : Nat} (hi : i < es) (hs : es ≤ 128) (h : post (ek i)) : wpX_logField post (nI 2, nI nd, ls, et, nI es, co, ca, pc, ra, rb, sp, mk, dp, fc, fa, fb, fm, sl, st, lf, su, pg, ss, ql, qs, qr, hd, fl, ek, ep, ev, er) (nI i) 0 := by
  unfold wpX_logField
  exact br_f (nI_pos (by omega)) (br_t (nI_lt hi (by omega)) (br_f (by decide) (br_f (by decide) (br_t rfl ⟨vp_in_nI (by omega) (by decide), by rw [nI_clamp (by omega)]; exact h⟩))))
theorem sx_lf1 {post : Int32 → Prop} {i : Nat} (hi : i < es) (hs : es ≤ 128) (h : post (ep i)) : wpX_logField post (nI 2, nI nd, ls, et, nI es, co, ca, pc, ra, rb, sp, mk, dp, fc, fa, fb, fm, sl, st, lf, su, pg, ss, ql, qs, qr, hd, fl, ek, ep, ev, er) (nI i) 1 := by
  unfold wpX_logField
  exact br_f (nI_pos (by omega)) (br_t (nI_lt hi (by omega)) (br_f (by decide) (br_f (by decide) (br_f (by decide) (br_t rfl ⟨vp_in_nI (by omega) (by decide), by rw [nI_clamp (by omega)]; exact h⟩)))))
theorem sx_lf2 {post : Int32 → Prop} {i : Nat} (hi : i < es) (hs : es ≤ 128) (h : post (ev i)) : wpX_logField post (nI 2, nI nd, ls, et, nI es, co, ca, pc, ra, rb, sp, mk, dp, fc, fa, fb, fm, sl, st, lf, su, pg, ss, ql, qs, qr, hd, fl, ek, ep, ev, er) (nI i) 2 := by
  unfold wpX_logField
  exact br_f (nI_pos (by omega)) (br_t (nI_lt hi (by omega)) (br_f (by decide) (br_f (by decide) (br_f (by decide) (br_f (by decide) (br_t rfl ⟨vp_in_nI (by omega) (by decide), by rw [nI_clamp (by omega)]; exact h⟩))))))
theorem sx_lf3 {post : Int32 → Prop} {i : Nat} (hi : i < es) (hs : es ≤ 128) (h : post (er i)) : wpX_logField post (nI 2, nI nd, ls, et, nI es, co, ca, pc, ra, rb, sp, mk, dp, fc, fa, fb, fm, sl, st, lf, su, pg, ss, ql, qs, qr, hd, fl, ek, ep, ev, er) (nI i) 3 := by
  unfold wpX_logField
  exact br_f (nI_pos (by omega)) (br_t (nI_lt hi (by omega)) (br_f (by decide) (br_f (by decide) (br_f (by decide) (br_f (by decide) (br_f (by decide) (br_t rfl ⟨vp_in_nI (by omega) (by decide), by rw [nI_clamp (by omega)]; exact h⟩)))))))
theorem sx_reg0 {post : Int32 → Prop} {p : Nat} (hp : p < 2) (h : post (pc p)) : wpX_reg post (nI 2, nI nd, ls, et, nI es, co, ca, pc, ra, rb, sp, mk, dp, fc, fa, fb, fm, sl, st, lf, su, pg, ss, ql, qs, qr, hd, fl, ek, ep, ev, er) (nI p) 0 := by
  unfold wpX_reg
  refine sx_pid1 (np := 2) hp (by decide) ?_
  exact br_f (by decide) (br_f (by decide) (br_f (by decide) (br_t rfl ⟨vp_in_nI (by omega) (by decide), by rw [nI_clamp (by omega)]; exact h⟩)))
theorem sx_reg1 {post : Int32 → Prop} {p : Nat} (hp : p < 2) (h : post (ra p)) : wpX_reg post (nI 2, nI nd, ls, et, nI es, co, ca, pc, ra, rb, sp, mk, dp, fc, fa, fb, fm, sl, st, lf, su, pg, ss, ql, qs, qr, hd, fl, ek, ep, ev, er) (nI p) 1 := by
  unfold wpX_reg
  refine sx_pid1 (np := 2) hp (by decide) ?_
  exact br_f (by decide) (br_f (by decide) (br_f (by decide) (br_f (by decide) (br_t rfl ⟨vp_in_nI (by omega) (by decide), by rw [nI_clamp (by omega)]; exact h⟩))))
theorem sx_reg2 {post : Int32 → Prop} {p : Nat} (hp : p < 2) (h : post (rb p)) : wpX_reg post (nI 2, nI nd, ls, et, nI es, co, ca, pc, ra, rb, sp, mk, dp, fc, fa, fb, fm, sl, st, lf, su, pg, ss, ql, qs, qr, hd, fl, ek, ep, ev, er) (nI p) 2 := by
  unfold wpX_reg
  refine sx_pid1 (np := 2) hp (by decide) ?_
  exact br_f (by decide) (br_f (by decide) (br_f (by decide) (br_f (by decide) (br_f (by decide) (br_t rfl ⟨vp_in_nI (by omega) (by decide), by rw [nI_clamp (by omega)]; exact h⟩)))))
theorem sx_reg3 {post : Int32 → Prop} {p : Nat} (hp : p < 2) (h : post (sp p)) : wpX_reg post (nI 2, nI nd, ls, et, nI es, co, ca, pc, ra, rb, sp, mk, dp, fc, fa, fb, fm, sl, st, lf, su, pg, ss, ql, qs, qr, hd, fl, ek, ep, ev, er) (nI p) 3 := by
  unfold wpX_reg
  refine sx_pid1 (np := 2) hp (by decide) ?_
  exact br_f (by decide) (br_f (by decide) (br_f (by decide) (br_f (by decide) (br_f (by decide) (br_f (by decide) (br_t rfl ⟨vp_in_nI (by omega) (by decide), by rw [nI_clamp (by omega)]; exact h⟩))))))
theorem sx_reg4 {post : Int32 → Prop} {p : Nat} (hp : p < 2) (h : post (mk p)) : wpX_reg post (nI 2, nI nd, ls, et, nI es, co, ca, pc, ra, rb, sp, mk, dp, fc, fa, fb, fm, sl, st, lf, su, pg, ss, ql, qs, qr, hd, fl, ek, ep, ev, er) (nI p) 4 := by
  unfold wpX_reg
  refine sx_pid1 (np := 2) hp (by decide) ?_
  exact br_f (by decide) (br_f (by decide) (br_f (by decide) (br_f (by decide) (br_f (by decide) (br_f (by decide) (br_f (by decide) (br_t rfl ⟨vp_in_nI (by omega) (by decide), by rw [nI_clamp (by omega)]; exact h⟩)))))))
theorem sx_reg5 {post : Int32 → Prop} {p : Nat} (hp : p < 2) (h : post (dp p)) : wpX_reg post (nI 2, nI nd, ls, et, nI es, co, ca, pc, ra, rb, sp, mk, dp, fc, fa, fb, fm, sl, st, lf, su, pg, ss, ql, qs, qr, hd, fl, ek, ep, ev, er) (nI p) 5 := by
  unfold wpX_reg
  refine sx_pid1 (np := 2) hp (by decide) ?_
  exact br_f (by decide) (br_f (by decide) (br_f (by decide) (br_f (by decide) (br_f (by decide) (br_f (by decide) (br_f (by decide) (br_f (by decide) (br_t rfl ⟨vp_in_nI (by omega) (by decide), by rw [nI_clamp (by omega)]; exact h⟩))))))))
theorem sx_reg6 {post : Int32 → Prop} {p : Nat} (hp : p < 2) (h : post (sl p)) : wpX_reg post (nI 2, nI nd, ls, et, nI es, co, ca, pc, ra, rb, sp, mk, dp, fc, fa, fb, fm, sl, st, lf, su, pg, ss, ql, qs, qr, hd, fl, ek, ep, ev, er) (nI p) 6 := by
  unfold wpX_reg
  refine sx_pid1 (np := 2) hp (by decide) ?_
  exact br_f (by decide) (br_f (by decide) (br_f (by decide) (br_f (by decide) (br_f (by decide) (br_f (by decide) (br_f (by decide) (br_f (by decide) (br_f (by decide) (br_t rfl ⟨vp_in_nI (by omega) (by decide), by rw [nI_clamp (by omega)]; exact h⟩)))))))))
theorem sx_reg9 {post : Int32 → Prop} {p : Nat} (hp : p < 2) (h : post (ql p)) : wpX_reg post (nI 2, nI nd, ls, et, nI es, co, ca, pc, ra, rb, sp, mk, dp, fc, fa, fb, fm, sl, st, lf, su, pg, ss, ql, qs, qr, hd, fl, ek, ep, ev, er) (nI p) 9 := by
  unfold wpX_reg
  refine sx_pid1 (np := 2) hp (by decide) ?_
  exact br_f (by decide) (br_f (by decide) (br_f (by decide) (br_f (by decide) (br_f (by decide) (br_f (by decide) (br_f (by decide) (br_f (by decide) (br_f (by decide) (br_f (by decide) (br_f (by decide) (br_f (by decide) (br_t rfl ⟨vp_in_nI (by omega) (by decide), by rw [nI_clamp (by omega)]; exact h⟩))))))))))))
theorem sx_stored {post : Int32 → Prop} (hm : m ≤ 128) (h : post (nI m)) : wpL_stored post (nI 2, nI nd, ls, nI m, nI es, co, ca, pc, ra, rb, sp, mk, dp, fc, fa, fb, fm, sl, st, lf, su, pg, ss, ql, qs, qr, hd, fl, ek, ep, ev, er) := by
  unfold wpL_stored
  refine sx_lt ?_
  exact br_t (nI_le (b := 128) hm (by decide)) (br_t (nI_pos' (by omega)) h)
theorem sx_qd {post : Int32 → Prop} {p l i : Nat} (hp : p < 2) (hl : l ≤ 8) (e : ql p = nI l) (hi : i < l) (h : post (qr (p * 8 + i))) : wpX_queued post (nI 2, nI nd, ls, et, nI es, co, ca, pc, ra, rb, sp, mk, dp, fc, fa, fb, fm, sl, st, lf, su, pg, ss, ql, qs, qr, hd, fl, ek, ep, ev, er) (nI p) (nI i) 1 := by
  unfold wpX_queued
  refine sx_pid1 (np := 2) hp (by decide) ?_
  refine br_f (by decide) (br_f (nI_pos (by omega)) ⟨vp_in_nI (by omega) (by decide), br_t ?_ (nm_r (sk_ix8 p i) (br_f (by decide) (br_t rfl ⟨vp_in_nI (by omega) (by decide), ?_⟩)))⟩)
  · rw [nI_clamp (by omega), e]; exact nI_lt hi (by omega)
  · rw [nI_clamp (by omega)]; exact h
theorem pv_ce_l {post : Int32 → Prop} {p s : Nat} (hs : es ≤ 128) (h : post (nI (pv_cnt ek ep er p s es))) : ∀ d i, i + d = es → wL_countEv_11 post (nI p) (nI s) (nI es) (nI 2) (nI nd) ls et (nI es) co ca pc ra rb sp mk dp fc fa fb fm sl st lf su pg ss ql qs qr hd fl ek ep ev er (d + 1) (nI (pv_cnt ek ep er p s i)) (nI i) := by
  intro d
  induction d with
  | zero =>
    intro i hi
    have hi' : i = es := by omega
    subst hi'
    rw [wL_countEv_11]
    exact br_t (nI_le (Nat.le_refl _) (by omega)) h
  | succ d ih =>
    intro i hi
    have hh := ih (i + 1) (by omega)
    have no : ¬ pv_D ek ep er p s i → wL_countEv_11 post (nI p) (nI s) (nI es) (nI 2) (nI nd) ls et (nI es) co ca pc ra rb sp mk dp fc fa fb fm sl st lf su pg ss ql qs qr hd fl ek ep ev er (d + 1) (nI (pv_cnt ek ep er p s i)) (nI (i + 1)) := fun z => by
      simp only [pv_cnt, if_neg z, Nat.add_zero] at hh
      exact hh
    rw [wL_countEv_11]
    refine br_f (nI_ge (by omega) (by omega)) ?_
    refine sx_lf0 (by omega) hs ?_
    refine sx_del (fun z1 => ?_) fun z1 => ?_
    · refine br_f (by decide) ?_
      refine sx_lf1 (by omega) hs ?_
      refine br_c (fun z2 => ?_) fun z2 => nm_r (nI_1 i) (no fun y => z2 y.2.1)
      refine sx_lf3 (by omega) hs ?_
      refine br_c (fun z3 => ?_) fun z3 => nm_r (nI_1 i) (no fun y => z3 y.2.2)
      have z : pv_D ek ep er p s i := ⟨z1, z2, z3⟩
      simp only [pv_cnt, if_pos z] at hh
      exact nm_r (nI_1 _) (nm_r (nI_1 i) hh)
    · exact br_t rfl (nm_r (nI_1 i) (no fun y => z1 y.1))
theorem pv_ce {post : Int32 → Prop} {p s : Nat} (hm : m ≤ 128) (h : post (nI (pv_cnt ek ep er p s m))) : wpL_countEv post (nI 2, nI nd, ls, nI m, nI m, co, ca, pc, ra, rb, sp, mk, dp, fc, fa, fb, fm, sl, st, lf, su, pg, ss, ql, qs, qr, hd, fl, ek, ep, ev, er) (nI p) (nI s) := by
  unfold wpL_countEv
  refine sx_stored hm ?_
  exact ⟨m + 1, pv_ce_l hm h m 0 (by omega)⟩
theorem pv_cq_l {post : Int32 → Prop} {p s l : Nat} (hp : p < 2) (hl : l ≤ 8) (e : ql p = nI l) (h : post (nI (pv_cq qr (p * 8) s l))) : ∀ d i, i + d = l → wL_countQ_23 post (nI p) (nI s) (nI l) (nI 2) (nI nd) ls et (nI es) co ca pc ra rb sp mk dp fc fa fb fm sl st lf su pg ss ql qs qr hd fl ek ep ev er (d + 1) (nI (pv_cq qr (p * 8) s i)) (nI i) := by
  intro d
  induction d with
  | zero =>
    intro i hi
    have hi' : i = l := by omega
    subst hi'
    rw [wL_countQ_23]
    exact br_t (nI_le (Nat.le_refl _) (by omega)) h
  | succ d ih =>
    intro i hi
    have hh := ih (i + 1) (by omega)
    rw [wL_countQ_23]
    refine br_f (nI_ge (by omega) (by omega)) ?_
    refine sx_qd hp hl e (by omega) ?_
    refine br_c (fun z => ?_) fun z => ?_
    · simp only [pv_cq, if_pos z] at hh
      exact nm_r (nI_1 _) (nm_r (nI_1 i) hh)
    · simp only [pv_cq, if_neg z, Nat.add_zero] at hh
      exact nm_r (nI_1 i) hh
theorem pv_cqt {post : Int32 → Prop} {p s l : Nat} (hp : p < 2) (hl : l ≤ 8) (e : ql p = nI l) (h : post (nI (pv_cq qr (p * 8) s l))) : wpL_countQ post (nI 2, nI nd, ls, et, nI es, co, ca, pc, ra, rb, sp, mk, dp, fc, fa, fb, fm, sl, st, lf, su, pg, ss, ql, qs, qr, hd, fl, ek, ep, ev, er) (nI p) (nI s) := by
  unfold wpL_countQ
  refine sx_reg9 hp ?_
  rw [e]
  exact br_t (nI_le (b := 64) (by omega) (by decide)) ⟨l + 1, pv_cq_l hp hl e h l 0 (by omega)⟩
theorem pv_102 {post : Int32 → Prop} {J : Int32 → Prop} {p v l : Nat} {rt st' : Int64} {x7 : Int32} {al : Prop} {gq sq sp' : Nat → Int32} {w : Int32} {R : Nat → Prop} (hm : m ≤ 128) (hv : v < 64) (a : pv_A m L al l gq sq w sp' ek ep ev er R (pv_B st') p) (h : J (nI (v + 1))) : wL_serialsOk_102 post J (nI p) rt st' x7 (nI v) (nI 2) (nI nd) ls (nI m) (nI m) co ca pc ra rb sp mk dp fc fa fb fm sl st lf su pg ss ql qs qr hd fl ek ep ev er := by
  unfold wL_serialsOk_102
  refine pv_has hv (fun _ hb => ?_) fun _ => br_t rfl (nm_r (nI_1 v) h)
  refine br_f (by decide) ?_
  refine pv_ce hm ?_
  exact br_t (nI_le (b := 1) (a.2.2.2.1.1 v (Or.inr hb)) (by decide)) (nm_r (nI_1 v) h)
theorem pv_so_l {post : Int32 → Prop} {p l : Nat} {rt st' : Int64} {x7 : Int32} {gq : Nat → Int32} {sp' : Nat → Int32} {w : Int32} (hp : p < 2) (hm : m ≤ 128) (hL : L ≤ 63) (hl : l ≤ 8) (e : ql p = nI l) (a : pv_A m L (lf p = 0) l gq (fun j => qr (p * 8 + j)) w sp' ek ep ev er (pv_B rt) (pv_B st') p) (h7 : ¬ lf p = 0 → ¬ x7 = 0) (h : post 1) : ∀ d v, v + d = 64 → wL_serialsOk_29 post (nI p) rt st' x7 (nI 2) (nI nd) ls (nI m) (nI m) co ca pc ra rb sp mk dp fc fa fb fm sl st lf su pg ss ql qs qr hd fl ek ep ev er (d + 1) (nI v) := by
  intro d
  induction d with
  | zero =>
    intro v hv
    have hv' : v = 64 := by omega
    subst hv'
    rw [wL_serialsOk_29]
    exact br_t (by decide) h
  | succ d ih =>
    intro v hv
    have hh := ih (v + 1) (by omega)
    have next := pv_102 (post := post) (co := co) (ca := ca) (pc := pc) (ra := ra) (rb := rb) (sp := sp) (mk := mk) (dp := dp) (fc := fc) (fa := fa) (fb := fb) (fm := fm) (sl := sl) (st := st) (lf := lf) (su := su) (pg := pg) (ss := ss) (ql := ql) (qs := qs) (qr := qr) (hd := hd) (fl := fl) (nd := nd) (ls := ls) (rt := rt) (x7 := x7) hm (by omega : v < 64) a hh
    rw [wL_serialsOk_29]
    refine br_f (nI_ge (b := 64) (by omega) (by decide)) ?_
    refine pv_has (by omega) (fun _ hb => ?_) fun _ => br_t rfl next
    refine br_f (by decide) ?_
    refine pv_cqt hp hl e ?_
    refine pv_ce hm ?_
    have hvL := (a.1.1 v hb).2
    by_cases z : ∃ j, j < l ∧ qr (p * 8 + j) = nI v
    · obtain ⟨j0, hj0, e0⟩ := z
      have q1 : pv_cq qr (p * 8) v l = 1 := pv_cq_1 l hj0 e0 fun j hj hn y => by
        rcases Nat.lt_or_gt_of_ne hn with t | t
        · exact absurd (a.2.1.2 j j0 v v t hj0 y e0 hb hb) (Nat.lt_irrefl _)
        · exact absurd (a.2.1.2 j0 j v v t hj e0 y hb hb) (Nat.lt_irrefl _)
      have q2 : pv_cnt ek ep er p v m = 0 := by
        obtain ⟨g, s, _, _, _, d', r, c⟩ := a.2.1.1 j0 hj0
        have := (a.1.1 s r).2
        have : s = v := (nI_eq (by omega) (by omega)).mp (d'.symm.trans e0)
        exact this ▸ c
      rw [q1, q2]
      exact br_t rfl (br_t rfl next)
    · have q1 : pv_cq qr (p * 8) v l = 0 := pv_cq_0 l fun j hj y => z ⟨j, hj, y⟩
      have c1 := a.2.2.2.1.1 v (Or.inl hb)
      dsimp only at c1
      rw [q1]
      refine br_f (by decide) ?_
      unfold wL_serialsOk_74
      refine br_t rfl ?_
      by_cases y : pv_cnt ek ep er p v m = 0
      · rw [y]
        refine br_f (by decide) ?_
        unfold wL_serialsOk_85
        refine br_t rfl (br_t rfl (br_f (h7 fun al => z (a.2.2.2.1.2 al v hb y)) next))
      · have : pv_cnt ek ep er p v m = 1 := by omega
        rw [this]
        exact br_t rfl next
theorem pv_so {post : Int32 → Prop} {p : Nat} {rt st' : Int64} (hp : p < 2) (hm : m ≤ 128) (hL : L ≤ 63) (a : pv_AP m L lf pg ss ql qs qr ek ep ev er (pv_B rt) (pv_B st') p) (h : post 1) : wpL_serialsOk post (nI 2, nI nd, ls, nI m, nI m, co, ca, pc, ra, rb, sp, mk, dp, fc, fa, fb, fm, sl, st, lf, su, pg, ss, ql, qs, qr, hd, fl, ek, ep, ev, er) (nI p) rt st' := by
  have hp4 : p < 4 := by omega
  have e1 : vp_in (nI p) 4 := vp_in_nI hp4 (by decide)
  have e2 : (nI p).toNatClampNeg = p := nI_clamp (by omega)
  obtain ⟨l, ⟨e, elf⟩, hl, a⟩ := a
  have H : ∀ x7 : Int32, (¬ lf p = 0 → ¬ x7 = 0) → ∃ fu29, wL_serialsOk_29 post (nI p) rt st' x7 (nI 2) (nI nd) ls (nI m) (nI m) co ca pc ra rb sp mk dp fc fa fb fm sl st lf su pg ss ql qs qr hd fl ek ep ev er fu29 1 := fun x7 h7 => ⟨64, pv_so_l hp hm hL hl e a h7 h 63 1 (by omega)⟩
  unfold wpL_serialsOk wpX_state
  refine sx_pid1 (np := 2) hp (by decide) ?_
  refine br_f (by decide) ⟨e1, br_c (fun z => ⟨e1, ?_⟩) fun z => ⟨e1, ?_⟩⟩
  · rw [e2] at z
    have h7 : ∀ x7 : Int32, ¬ lf p = 0 → ¬ x7 = 0 := fun _ y => absurd z y
    refine br_c (fun _ => ⟨e1, br_c (fun _ => ?_) fun _ => ?_⟩) fun _ => ?_
    · exact br_f (by decide) (br_f (by decide) (H 0 (h7 0)))
    · exact br_f (by decide) (br_f (by decide) (H 0 (h7 0)))
    · exact br_f (by decide) (br_f (by decide) (H 0 (h7 0)))
  · rw [e2] at z
    rw [e2]
    rcases elf with y | y | y
    · exact absurd y z
    · exact br_t y (H 1 fun _ => by decide)
    · exact br_f (by rw [y]; decide) (br_t y (H 1 fun _ => by decide))
end
