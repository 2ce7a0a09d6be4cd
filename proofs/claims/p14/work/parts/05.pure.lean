/-! the law's picture of one process: its queue, its pending signals, its events in the log, the serials sent to it -/
abbrev pv_dl (k : Int32) : Prop := k = 1 ∨ k = 2 ∨ k = 3 ∨ k = 4
abbrev pv_D (ek ep er : Nat → Int32) (p s i : Nat) : Prop := pv_dl (ek i) ∧ ep i = nI p ∧ er i = nI s
/-- how many of the first n events deliver serial s to process p -/
def pv_cnt (ek ep er : Nat → Int32) (p s : Nat) : Nat → Nat
  | 0 => 0
  | n + 1 => pv_cnt ek ep er p s n + (if pv_D ek ep er p s n then 1 else 0)
theorem pv_cnt_c {ek ep er ek' ep' er' : Nat → Int32} {p s : Nat} : ∀ n, (∀ i, i < n → ek' i = ek i ∧ ep' i = ep i ∧ er' i = er i) → pv_cnt ek' ep' er' p s n = pv_cnt ek ep er p s n := by
  intro n
  induction n with
  | zero => intro _; rfl
  | succ n ih =>
    intro h
    obtain ⟨h1, h2, h3⟩ := h n (by omega)
    simp only [pv_cnt, pv_D, h1, h2, h3, ih fun i hi => h i (by omega)]
theorem pv_cnt_a {ek ep er : Nat → Int32} {p s n : Nat} {k q x : Int32} : pv_cnt (upd ek n k) (upd ep n q) (upd er n x) p s (n + 1) = pv_cnt ek ep er p s n + (if pv_dl k ∧ q = nI p ∧ x = nI s then 1 else 0) := by
  have h : ∀ i, i < n → upd ek n k i = ek i ∧ upd ep n q i = ep i ∧ upd er n x i = er i := fun i hi => ⟨pk_un (by omega), pk_un (by omega), pk_un (by omega)⟩
  simp only [pv_cnt, pv_D, pk_us, pv_cnt_c n h]
theorem pv_cnt_0 {ek ep er : Nat → Int32} {p s : Nat} : ∀ n, (∀ i, i < n → ¬ pv_D ek ep er p s i) → pv_cnt ek ep er p s n = 0 := by
  intro n
  induction n with
  | zero => intro _; rfl
  | succ n ih =>
    intro h
    simp only [pv_cnt, if_neg (h n (by omega)), ih fun i hi => h i (by omega)]
def pv_S (L : Nat) (R T : Nat → Prop) : Prop := (∀ s, R s → 1 ≤ s ∧ s ≤ L) ∧ (∀ s, T s → 1 ≤ s ∧ s ≤ L) ∧ (∀ s, R s → ¬ T s)
def pv_Q (m : Nat) (gq sq : Nat → Int32) (c : Nat → Nat) (R : Nat → Prop) : Prop := (∀ j, j < m → ∃ g s, 16 ≤ g ∧ g < 32 ∧ gq j = nI g ∧ sq j = nI s ∧ R s ∧ c s = 0) ∧ (∀ i j a b, i < j → j < m → sq i = nI a → sq j = nI b → R a → R b → a < b)
def pv_P (w : Int32) (sp : Nat → Int32) (c : Nat → Nat) (T : Nat → Prop) : Prop := (∀ g, 1 ≤ g → g < 16 → bt w g = true → ∃ s, sp g = nI s ∧ T s ∧ c s = 0) ∧ (∀ g h, 1 ≤ g → g < 16 → 1 ≤ h → h < 16 → g ≠ h → bt w g = true → bt w h = true → sp g ≠ sp h)
def pv_C (al : Prop) (m : Nat) (sq : Nat → Int32) (c : Nat → Nat) (R T : Nat → Prop) : Prop := (∀ s, R s ∨ T s → c s ≤ 1) ∧ (al → ∀ s, R s → c s = 0 → ∃ j, j < m ∧ sq j = nI s)
def pv_E (ek ep ev er : Nat → Int32) (p i v a : Nat) : Prop := pv_dl (ek i) ∧ ep i = nI p ∧ ev i = nI v ∧ er i = nI a
def pv_O (n m : Nat) (gq sq ek ep ev er : Nat → Int32) (R : Nat → Prop) (p : Nat) : Prop :=
  (∀ i j v a b, i < j → j < n → 16 ≤ v → v < 32 → pv_E ek ep ev er p i v a → pv_E ek ep ev er p j v b → R a → R b → a < b) ∧
  (∀ i v a j b, i < n → 16 ≤ v → v < 32 → pv_E ek ep ev er p i v a → R a → j < m → gq j = nI v → sq j = nI b → R b → a < b)
def pv_G (n : Nat) (ek ep ev er : Nat → Int32) (R T : Nat → Prop) (p : Nat) : Prop := ∀ i, i < n → pv_dl (ek i) → ep i = nI p → (er i = 0 ∧ ek i = 2 ∧ ev i = 11) ∨ ∃ s, er i = nI s ∧ (R s ∨ T s)
def pv_A (n L : Nat) (al : Prop) (m : Nat) (gq sq : Nat → Int32) (w : Int32) (sp ek ep ev er : Nat → Int32) (R T : Nat → Prop) (p : Nat) : Prop :=
  pv_S L R T ∧ pv_Q m gq sq (fun s => pv_cnt ek ep er p s n) R ∧ pv_P w sp (fun s => pv_cnt ek ep er p s n) T ∧ pv_C al m sq (fun s => pv_cnt ek ep er p s n) R T ∧ pv_O n m gq sq ek ep ev er R p ∧ pv_G n ek ep ev er R T p
section
variable {n L m p : Nat} {al : Prop} {gq sq sp ek ep ev er : Nat → Int32} {w : Int32} {R T : Nat → Prop}
theorem pv_E_lt {k q v' x : Int32} {i v a : Nat} (hi : i < n) (h : pv_E (upd ek n k) (upd ep n q) (upd ev n v') (upd er n x) p i v a) : pv_E ek ep ev er p i v a := by
  unfold pv_E at h ⊢
  rw [pk_un (by omega), pk_un (by omega), pk_un (by omega), pk_un (by omega)] at h
  exact h
theorem pv_E_n {k q v' x : Int32} {v a : Nat} (h : pv_E (upd ek n k) (upd ep n q) (upd ev n v') (upd er n x) p n v a) : pv_dl k ∧ q = nI p ∧ v' = nI v ∧ x = nI a := by
  unfold pv_E at h
  rw [pk_us, pk_us, pk_us, pk_us] at h
  exact h
/-- the order and the contents of the log behind one more event -/
theorem pv_O_app {k q v' x : Int32} {m' : Nat} {gq' sq' : Nat → Int32} (h : pv_O n m gq sq ek ep ev er R p)
    (hq : ∀ j, j < m' → ∃ i, i < m ∧ gq' j = gq i ∧ sq' j = sq i)
    (h1 : ∀ v b, 16 ≤ v → v < 32 → pv_dl k → q = nI p → v' = nI v → x = nI b → R b → (∀ i a, i < n → pv_E ek ep ev er p i v a → R a → a < b) ∧ (∀ j c, j < m' → gq' j = nI v → sq' j = nI c → R c → b < c)) :
    pv_O (n + 1) m' gq' sq' (upd ek n k) (upd ep n q) (upd ev n v') (upd er n x) R p := by
  constructor
  · intro i j v a b hij hj h16 h32 ei ej ra rb
    by_cases e : j = n
    · subst e
      obtain ⟨d1, d2, d3, d4⟩ := pv_E_n ej
      exact (h1 v b h16 h32 d1 d2 d3 d4 rb).1 i a hij (pv_E_lt hij ei) ra
    · exact h.1 i j v a b hij (by omega) h16 h32 (pv_E_lt (by omega) ei) (pv_E_lt (by omega) ej) ra rb
  · intro i v a j b hi h16 h32 ei ra hj g1 s1 rb
    by_cases e : i = n
    · subst e
      obtain ⟨d1, d2, d3, d4⟩ := pv_E_n ei
      exact (h1 v a h16 h32 d1 d2 d3 d4 ra).2 j b hj g1 s1 rb
    · obtain ⟨i', hi', e1, e2⟩ := hq j hj
      exact h.2 i v a i' b (by omega) h16 h32 (pv_E_lt (by omega) ei) ra hi' (by rw [← e1]; exact g1) (by rw [← e2]; exact s1) rb
theorem pv_G_app {k q v' x : Int32} (h : pv_G n ek ep ev er R T p) (hx : pv_dl k → q = nI p → (x = 0 ∧ k = 2 ∧ v' = 11) ∨ ∃ s, x = nI s ∧ (R s ∨ T s)) : pv_G (n + 1) (upd ek n k) (upd ep n q) (upd ev n v') (upd er n x) R T p := by
  intro i hi
  by_cases e : i = n
  · subst e
    rw [pk_us, pk_us, pk_us, pk_us]
    exact hx
  · rw [pk_un e, pk_un e, pk_un e, pk_un e]
    exact h i (by omega)
/-- an event that delivers nothing to p -/
theorem pv_A_other {k q v' x : Int32} (hk : ¬ (pv_dl k ∧ q = nI p)) (h : pv_A n L al m gq sq w sp ek ep ev er R T p) : pv_A (n + 1) L al m gq sq w sp (upd ek n k) (upd ep n q) (upd ev n v') (upd er n x) R T p := by
  have hc : ∀ s, pv_cnt (upd ek n k) (upd ep n q) (upd er n x) p s (n + 1) = pv_cnt ek ep er p s n := fun s => by
    rw [pv_cnt_a, if_neg (fun y => hk ⟨y.1, y.2.1⟩), Nat.add_zero]
  obtain ⟨h1, h2, h3, h4, h5, h6⟩ := h
  refine ⟨h1, ?_, ?_, ?_, pv_O_app h5 (fun j hj => ⟨j, hj, rfl, rfl⟩) (fun v b _ _ d1 d2 => absurd ⟨d1, d2⟩ hk), pv_G_app h6 fun d1 d2 => absurd ⟨d1, d2⟩ hk⟩
  · simp only [hc]; exact h2
  · simp only [hc]; exact h3
  · simp only [hc]; exact h4
/-- a death by a wild PC: a TERM event with serial 0 -/
theorem pv_A_zero {q : Int32} (hL : L < 1000) (h : pv_A n L al m gq sq w sp ek ep ev er R T p) : pv_A (n + 1) L al m gq sq w sp (upd ek n 2) (upd ep n q) (upd ev n 11) (upd er n 0) R T p := by
  obtain ⟨h1, h2, h3, h4, h5, h6⟩ := h
  have hc : ∀ s, 1 ≤ s → s ≤ L → pv_cnt (upd ek n 2) (upd ep n q) (upd er n 0) p s (n + 1) = pv_cnt ek ep er p s n := fun s a b => by
    rw [pv_cnt_a, if_neg (fun y => absurd y.2.2.symm (nI_ne0 a (by omega))), Nat.add_zero]
  have hR : ∀ s, R s → pv_cnt (upd ek n 2) (upd ep n q) (upd er n 0) p s (n + 1) = pv_cnt ek ep er p s n := fun s r => hc s (h1.1 s r).1 (h1.1 s r).2
  have hT : ∀ s, T s → pv_cnt (upd ek n 2) (upd ep n q) (upd er n 0) p s (n + 1) = pv_cnt ek ep er p s n := fun s r => hc s (h1.2.1 s r).1 (h1.2.1 s r).2
  refine ⟨h1, ⟨fun j hj => ?_, h2.2⟩, ⟨fun g a b c => ?_, h3.2⟩, ⟨fun s hs => ?_, fun a s r z => ?_⟩, pv_O_app h5 (fun j hj => ⟨j, hj, rfl, rfl⟩) (fun v b _ _ _ _ _ d4 r => absurd d4.symm (nI_ne0 (h1.1 b r).1 (by have := (h1.1 b r).2; omega))), pv_G_app h6 fun _ _ => Or.inl ⟨rfl, rfl, rfl⟩⟩
  · obtain ⟨g, s, a, b, c, d, r, z⟩ := h2.1 j hj
    exact ⟨g, s, a, b, c, d, r, (hR s r).trans z⟩
  · obtain ⟨s, d, t, z⟩ := h3.1 g a b c
    exact ⟨s, d, t, (hT s t).trans z⟩
  · rcases hs with r | r
    · show pv_cnt _ _ _ _ _ _ ≤ 1
      rw [hR s r]; exact h4.1 s (Or.inl r)
    · show pv_cnt _ _ _ _ _ _ ≤ 1
      rw [hT s r]; exact h4.1 s (Or.inr r)
  · exact h4.2 a s r ((hR s r).symm.trans z)
/-- a standard signal's serial, waiting nowhere, is delivered -/
theorem pv_A_evT {k v' : Int32} {s0 : Nat} (hL : L < 1000) (ht : T s0) (hc0 : pv_cnt ek ep er p s0 n = 0) (hw : ∀ g, 1 ≤ g → g < 16 → bt w g = true → sp g ≠ nI s0) (hk : pv_dl k) (h : pv_A n L al m gq sq w sp ek ep ev er R T p) : pv_A (n + 1) L al m gq sq w sp (upd ek n k) (upd ep n (nI p)) (upd ev n v') (upd er n (nI s0)) R T p := by
  obtain ⟨h1, h2, h3, h4, h5, h6⟩ := h
  have hs0 := h1.2.1 s0 ht
  have hc : ∀ s, s ≤ L → s ≠ s0 → pv_cnt (upd ek n k) (upd ep n (nI p)) (upd er n (nI s0)) p s (n + 1) = pv_cnt ek ep er p s n := fun s a b => by
    rw [pv_cnt_a, if_neg (fun y => b ((nI_eq (by omega) (by omega)).mp y.2.2).symm), Nat.add_zero]
  have hc1 : pv_cnt (upd ek n k) (upd ep n (nI p)) (upd er n (nI s0)) p s0 (n + 1) = 1 := by
    rw [pv_cnt_a, if_pos ⟨hk, rfl, rfl⟩, hc0]
  have hR : ∀ s, R s → pv_cnt (upd ek n k) (upd ep n (nI p)) (upd er n (nI s0)) p s (n + 1) = pv_cnt ek ep er p s n := fun s r => hc s (h1.1 s r).2 fun e => h1.2.2 s r (e ▸ ht)
  refine ⟨h1, ⟨fun j hj => ?_, h2.2⟩, ⟨fun g a b c => ?_, h3.2⟩, ⟨fun s hs => ?_, fun a s r z => ?_⟩, pv_O_app h5 (fun j hj => ⟨j, hj, rfl, rfl⟩) (fun v b _ _ _ _ _ d4 r => absurd (((nI_eq (by omega) (by have := (h1.1 b r).2; omega)).mp d4) ▸ ht) (h1.2.2 b r)), pv_G_app h6 fun _ _ => Or.inr ⟨s0, rfl, Or.inr ht⟩⟩
  · obtain ⟨g, s, a, b, c, d, r, z⟩ := h2.1 j hj
    exact ⟨g, s, a, b, c, d, r, (hR s r).trans z⟩
  · obtain ⟨s, d, t, z⟩ := h3.1 g a b c
    have e : s ≠ s0 := fun e => hw g a b c (e ▸ d)
    exact ⟨s, d, t, (hc s (h1.2.1 s t).2 e).trans z⟩
  · show pv_cnt _ _ _ _ _ _ ≤ 1
    by_cases e : s = s0
    · rw [e, hc1]; exact Nat.le_refl 1
    · rcases hs with r | r
      · rw [hR s r]; exact h4.1 s (Or.inl r)
      · rw [hc s (h1.2.1 s r).2 e]; exact h4.1 s (Or.inr r)
  · exact h4.2 a s r ((hR s r).symm.trans z)
/-- the pending word changes to a part of it -/
theorem pv_A_sub {w' : Int32} {sp' : Nat → Int32} (hw : ∀ g, 1 ≤ g → g < 16 → bt w' g = true → bt w g = true ∧ sp' g = sp g) (h : pv_A n L al m gq sq w sp ek ep ev er R T p) : pv_A n L al m gq sq w' sp' ek ep ev er R T p := by
  obtain ⟨h1, h2, h3, h4, h5, h6⟩ := h
  refine ⟨h1, h2, ⟨fun g a b c => ?_, fun g g' a b a' b' e c c' => ?_⟩, h4, h5, h6⟩
  · rw [(hw g a b c).2]
    exact h3.1 g a b (hw g a b c).1
  · rw [(hw g a b c).2, (hw g' a' b' c').2]
    exact h3.2 g g' a b a' b' e (hw g a b c).1 (hw g' a' b' c').1
theorem pv_A_die (h : pv_A n L al m gq sq w sp ek ep ev er R T p) (al' : Prop) (hal : ¬ al') (gq' sq' sp' : Nat → Int32) : pv_A n L al' 0 gq' sq' 0 sp' ek ep ev er R T p := by
  obtain ⟨h1, h2, h3, h4, h5, h6⟩ := h
  refine ⟨h1, ⟨fun j hj => absurd hj (by omega), fun i j a b _ hj => absurd hj (by omega)⟩, ⟨fun g a b c => ?_, fun g g' a b a' b' e c => ?_⟩, ⟨h4.1, fun a => absurd a hal⟩, ⟨h5.1, fun i v a j b _ _ _ _ _ hj => absurd hj (by omega)⟩, h6⟩
  · rw [b_0] at c; exact absurd c (by decide)
  · rw [b_0] at c; exact absurd c (by decide)
theorem pv_A_L {L' : Nat} (hL : L ≤ L') (h : pv_A n L al m gq sq w sp ek ep ev er R T p) : pv_A n L' al m gq sq w sp ek ep ev er R T p := by
  obtain ⟨h1, h2⟩ := h
  exact ⟨⟨fun s r => ⟨(h1.1 s r).1, Nat.le_trans (h1.1 s r).2 hL⟩, fun s r => ⟨(h1.2.1 s r).1, Nat.le_trans (h1.2.1 s r).2 hL⟩, h1.2.2⟩, h2⟩
/-- no event carries a serial beyond L -/
theorem pv_new (hL : L < 1000) (h : pv_A n L al m gq sq w sp ek ep ev er R T p) : pv_cnt ek ep er p (L + 1) n = 0 := by
  obtain ⟨h1, _, _, _, _, h6⟩ := h
  apply pv_cnt_0
  intro i hi d
  rcases h6 i hi d.1 d.2.1 with ⟨z, _, _⟩ | ⟨s, e, rt⟩
  · exact absurd (d.2.2.symm.trans z) (nI_ne0 (by omega) (by omega))
  · have hs : s ≤ L := rt.elim (fun r => (h1.1 s r).2) (fun r => (h1.2.1 s r).2)
    have : s = L + 1 := (nI_eq (by omega) (by omega)).mp (e.symm.trans d.2.2)
    omega
theorem pv_A_newT (hL : L < 1000) (h : pv_A n L al m gq sq w sp ek ep ev er R T p) : pv_A n (L + 1) al m gq sq w sp ek ep ev er R (fun s => T s ∨ s = L + 1) p := by
  have hn := pv_new hL h
  obtain ⟨h1, h2, h3, h4, h5, h6⟩ := h
  refine ⟨⟨fun s r => ⟨(h1.1 s r).1, by have := (h1.1 s r).2; omega⟩, fun s t => ?_, fun s r t => ?_⟩, h2, ⟨fun g a b c => ?_, h3.2⟩, ⟨fun s hs => ?_, h4.2⟩, h5, fun i hi a b => ?_⟩
  · rcases t with t | t
    · exact ⟨(h1.2.1 s t).1, by have := (h1.2.1 s t).2; omega⟩
    · omega
  · rcases t with t | t
    · exact h1.2.2 s r t
    · have := (h1.1 s r).2; omega
  · obtain ⟨s, d, t, z⟩ := h3.1 g a b c
    exact ⟨s, d, Or.inl t, z⟩
  · rcases hs with r | t | t
    · exact h4.1 s (Or.inl r)
    · exact h4.1 s (Or.inr t)
    · subst t
      show pv_cnt _ _ _ _ _ _ ≤ 1
      rw [hn]; exact Nat.zero_le 1
  · rcases h6 i hi a b with z | ⟨s, e, r | t⟩
    · exact Or.inl z
    · exact Or.inr ⟨s, e, Or.inl r⟩
    · exact Or.inr ⟨s, e, Or.inr (Or.inl t)⟩
theorem pv_A_mark {w' : Int32} {sp' : Nat → Int32} {g0 : Nat} (hL : L < 1000) (hw : ∀ g, 1 ≤ g → g < 16 → bt w' g = true → g = g0 ∨ (bt w g = true ∧ sp' g = sp g)) (hs : sp' g0 = nI (L + 1)) (h : pv_A n L al m gq sq w sp ek ep ev er R T p) : pv_A n (L + 1) al m gq sq w' sp' ek ep ev er R (fun s => T s ∨ s = L + 1) p := by
  have hn := pv_new hL h
  obtain ⟨h1, h2, h3, h4, h5, h6⟩ := pv_A_newT hL h
  have hT := h.1.2.1
  have h3' := h.2.2.1
  refine ⟨h1, h2, ⟨fun g a b c => ?_, fun g g' a b a' b' e c c' => ?_⟩, h4, h5, h6⟩
  · rcases hw g a b c with e | ⟨c1, c2⟩
    · subst e
      exact ⟨L + 1, hs, Or.inr rfl, hn⟩
    · rw [c2]
      exact h3.1 g a b c1
  · have key : ∀ x, 1 ≤ x → x < 16 → bt w x = true → sp x ≠ nI (L + 1) := fun x x1 x2 x3 z => by
      obtain ⟨s, d, t, _⟩ := h3'.1 x x1 x2 x3
      have := (hT s t).2
      have : s = L + 1 := (nI_eq (by omega) (by omega)).mp (d.symm.trans z)
      omega
    rcases hw g a b c with x | ⟨c1, c2⟩
    · rcases hw g' a' b' c' with y | ⟨d1, d2⟩
      · exact absurd (x.trans y.symm) e
      · subst x
        rw [hs, d2]
        exact (key g' a' b' d1).symm
    · rcases hw g' a' b' c' with y | ⟨d1, d2⟩
      · subst y
        rw [hs, c2]
        exact key g a b c1
      · rw [c2, d2]
        exact h3'.2 g g' a b a' b' e c1 d1
theorem pv_A_enq {gq' sq' : Nat → Int32} {g0 : Nat} (hL : L < 1000) (h16 : 16 ≤ g0) (h32 : g0 < 32) (hq : ∀ j, j < m → gq' j = gq j ∧ sq' j = sq j) (hg : gq' m = nI g0) (hs : sq' m = nI (L + 1)) (h : pv_A n L al m gq sq w sp ek ep ev er R T p) : pv_A n (L + 1) al (m + 1) gq' sq' w sp ek ep ev er (fun s => R s ∨ s = L + 1) T p := by
  have hn := pv_new hL h
  obtain ⟨h1, h2, h3, h4, h5, h6⟩ := h
  have hE : ∀ i v a, i < n → pv_E ek ep ev er p i v a → (R a ∨ a = L + 1) → a ≤ L + 1 → R a := fun i v a hi e r ha => by
    rcases r with r | r
    · exact r
    · subst r
      rcases h6 i hi e.1 e.2.1 with ⟨z, _, _⟩ | ⟨s, e', rt⟩
      · exact absurd (e.2.2.2.symm.trans z) (nI_ne0 (by omega) (by omega))
      · have hs : s ≤ L := rt.elim (fun r => (h1.1 s r).2) (fun r => (h1.2.1 s r).2)
        have : s = L + 1 := (nI_eq (by omega) (by omega)).mp (e'.symm.trans e.2.2.2)
        omega
  have hb : ∀ s, (R s ∨ s = L + 1) → s ≤ L + 1 := fun s r => r.elim (fun r => by have := (h1.1 s r).2; omega) (fun r => by omega)
  have hQ : ∀ j a, j < m → sq j = nI a → (R a ∨ a = L + 1) → R a := fun j a hj e r => by
    obtain ⟨g, s, _, _, _, d, r', _⟩ := h2.1 j hj
    have := hb a r
    have := (h1.1 s r').2
    have : s = a := (nI_eq (by omega) (by omega)).mp (d.symm.trans e)
    exact this ▸ r'
  have hm : ∀ a, nI (L + 1) = nI a → (R a ∨ a = L + 1) → a = L + 1 := fun a e r => by
    have := hb a r
    exact ((nI_eq (by omega) (by omega)).mp e).symm
  refine ⟨⟨fun s r => ?_, fun s t => ⟨(h1.2.1 s t).1, by have := (h1.2.1 s t).2; omega⟩, fun s r t => ?_⟩, ⟨fun j hj => ?_, fun i j a b hij hj e1 e2 ra rb => ?_⟩, h3, ⟨fun s hs' => ?_, fun a s r z => ?_⟩, ⟨fun i j v a b hij hj x y e1 e2 ra rb => ?_, fun i v a j b hi x y e1 ra hj e2 e3 rb => ?_⟩, fun i hi a b => ?_⟩
  · rcases r with r | r
    · exact ⟨(h1.1 s r).1, by have := (h1.1 s r).2; omega⟩
    · omega
  · rcases r with r | r
    · exact h1.2.2 s r t
    · have := (h1.2.1 s t).2; omega
  · by_cases e : j = m
    · subst e
      exact ⟨g0, L + 1, h16, h32, hg, hs, Or.inr rfl, hn⟩
    · obtain ⟨q1, q2⟩ := hq j (by omega)
      obtain ⟨g, s, a, b, c, d, r, z⟩ := h2.1 j (by omega)
      exact ⟨g, s, a, b, q1.trans c, q2.trans d, Or.inl r, z⟩
  · have hi' : sq i = nI a := by rw [← (hq i (by omega)).2]; exact e1
    have hra := hQ i a (by omega) hi' ra
    by_cases e : j = m
    · subst e
      have := hm b (hs.symm.trans e2) rb
      have := (h1.1 a hra).2
      omega
    · have hj' : sq j = nI b := by rw [← (hq j (by omega)).2]; exact e2
      exact h2.2 i j a b hij (by omega) hi' hj' hra (hQ j b (by omega) hj' rb)
  · rcases hs' with (r | r) | t
    · exact h4.1 s (Or.inl r)
    · subst r
      show pv_cnt _ _ _ _ _ _ ≤ 1
      rw [hn]; exact Nat.zero_le 1
    · exact h4.1 s (Or.inr t)
  · rcases r with r | r
    · obtain ⟨j, hj, e⟩ := h4.2 a s r z
      exact ⟨j, by omega, (hq j hj).2.trans e⟩
    · subst r
      exact ⟨m, by omega, hs⟩
  · exact h5.1 i j v a b hij hj x y e1 e2 (hE i v a (by omega) e1 ra (hb a ra)) (hE j v b hj e2 rb (hb b rb))
  · have hra := hE i v a hi e1 ra (hb a ra)
    by_cases e : j = m
    · subst e
      have := hm b (hs.symm.trans e3) rb
      have := (h1.1 a hra).2
      omega
    · have hg' : gq j = nI v := by rw [← (hq j (by omega)).1]; exact e2
      have hj' : sq j = nI b := by rw [← (hq j (by omega)).2]; exact e3
      exact h5.2 i v a j b hi x y e1 hra (by omega) hg' hj' (hQ j b (by omega) hj' rb)
  · rcases h6 i hi a b with z | ⟨s, e, r | t⟩
    · exact Or.inl z
    · exact Or.inr ⟨s, e, Or.inl (Or.inl r)⟩
    · exact Or.inr ⟨s, e, Or.inr t⟩
/-- the entry j0 leaves the queue and is delivered -/
theorem pv_A_rem {k v' : Int32} {gq' sq' : Nat → Int32} {j0 s0 : Nat} (hL : L < 1000) (hj0 : j0 < m + 1) (hs0 : sq j0 = nI s0) (hr0 : R s0)
    (hlo : ∀ j, j < j0 → gq' j = gq j ∧ sq' j = sq j) (hhi : ∀ j, j0 ≤ j → j < m → gq' j = gq (j + 1) ∧ sq' j = sq (j + 1)) (hd : ∀ i, i < j0 → gq i ≠ gq j0)
    (hv : v' = gq j0 ∨ v' = 11) (hk : pv_dl k) (h : pv_A n L al (m + 1) gq sq w sp ek ep ev er R T p) : pv_A (n + 1) L al m gq' sq' w sp (upd ek n k) (upd ep n (nI p)) (upd ev n v') (upd er n (nI s0)) R T p := by
  obtain ⟨h1, h2, h3, h4, h5, h6⟩ := h
  have bR := fun s r => (h1.1 s r).2
  have hinj : ∀ a b, R a → R b → nI a = nI b → a = b := fun a b ra rb e => (nI_eq (by have := bR a ra; omega) (by have := bR b rb; omega)).mp e
  have hc0 : pv_cnt ek ep er p s0 n = 0 := by
    obtain ⟨g, s, _, _, _, d, r, z⟩ := h2.1 j0 hj0
    have := hinj s s0 r hr0 (d.symm.trans hs0)
    exact this ▸ z
  have hc : ∀ s, s ≤ L → s ≠ s0 → pv_cnt (upd ek n k) (upd ep n (nI p)) (upd er n (nI s0)) p s (n + 1) = pv_cnt ek ep er p s n := fun s a b => by
    have := bR s0 hr0
    rw [pv_cnt_a, if_neg (fun y => b ((nI_eq (by omega) (by omega)).mp y.2.2).symm), Nat.add_zero]
  have hc1 : pv_cnt (upd ek n k) (upd ep n (nI p)) (upd er n (nI s0)) p s0 (n + 1) = 1 := by
    rw [pv_cnt_a, if_pos ⟨hk, rfl, rfl⟩, hc0]
  have hold : ∀ j, j < m → ∃ i, i < m + 1 ∧ i ≠ j0 ∧ gq' j = gq i ∧ sq' j = sq i ∧ (j < j0 → i = j) ∧ (j0 ≤ j → i = j + 1) := fun j hj => by
    by_cases e : j < j0
    · exact ⟨j, by omega, by omega, (hlo j e).1, (hlo j e).2, fun _ => rfl, fun z => by omega⟩
    · exact ⟨j + 1, by omega, by omega, (hhi j (by omega) hj).1, (hhi j (by omega) hj).2, fun z => by omega, fun _ => rfl⟩
  have hne : ∀ i s, i < m + 1 → i ≠ j0 → sq i = nI s → R s → s ≠ s0 := fun i s hi e es rs z => by
    subst z
    rcases Nat.lt_or_gt_of_ne e with y | y
    · exact absurd (h2.2 i j0 s s y hj0 es hs0 rs rs) (Nat.lt_irrefl _)
    · exact absurd (h2.2 j0 i s s y hi hs0 es rs rs) (Nat.lt_irrefl _)
  have hT : ∀ s, T s → pv_cnt (upd ek n k) (upd ep n (nI p)) (upd er n (nI s0)) p s (n + 1) = pv_cnt ek ep er p s n := fun s t => hc s (h1.2.1 s t).2 fun e => h1.2.2 s0 hr0 (e ▸ t)
  refine ⟨h1, ⟨fun j hj => ?_, fun i j a b hij hj e1 e2 ra rb => ?_⟩, ⟨fun g a b c => ?_, h3.2⟩, ⟨fun s hs => ?_, fun a s r z => ?_⟩, pv_O_app h5 (fun j hj => ?_) (fun v b x y _ _ d3 d4 rb => ⟨fun i a hi e ra => ?_, fun j c hj e1 e2 rc => ?_⟩), pv_G_app h6 fun _ _ => Or.inr ⟨s0, rfl, Or.inl hr0⟩⟩
  · obtain ⟨i, hi, e0, e1, e2, _⟩ := hold j hj
    obtain ⟨g, s, a, b, c, d, r, z⟩ := h2.1 i hi
    exact ⟨g, s, a, b, e1.trans c, e2.trans d, r, (hc s (bR s r) (hne i s hi e0 d r)).trans z⟩
  · obtain ⟨i', hi', _, _, f1, f2, f3⟩ := hold i (by omega)
    obtain ⟨j', hj', _, _, g1, g2, g3⟩ := hold j hj
    have : i' < j' := by
      by_cases x : i < j0
      · by_cases y : j < j0
        · have := f2 x; have := g2 y; omega
        · have := f2 x; have := g3 (by omega); omega
      · have := f3 (by omega); have := g3 (by omega); omega
    exact h2.2 i' j' a b this hj' (by rw [← f1]; exact e1) (by rw [← g1]; exact e2) ra rb
  · obtain ⟨s, d, t, z⟩ := h3.1 g a b c
    exact ⟨s, d, t, (hT s t).trans z⟩
  · show pv_cnt _ _ _ _ _ _ ≤ 1
    by_cases e : s = s0
    · rw [e, hc1]; exact Nat.le_refl 1
    · rcases hs with r | t
      · rw [hc s (bR s r) e]; exact h4.1 s (Or.inl r)
      · rw [hT s t]; exact h4.1 s (Or.inr t)
  · by_cases e : s = s0
    · subst e
      exact absurd (hc1.symm.trans z) (by decide)
    · obtain ⟨i, hi, es⟩ := h4.2 a s r ((hc s (bR s r) e).symm.trans z)
      have e0 : i ≠ j0 := fun y => e (hinj s s0 r hr0 (by rw [← es, y]; exact hs0))
      by_cases y : i < j0
      · exact ⟨i, by omega, (hlo i y).2.trans es⟩
      · have hh := hhi (i - 1) (by omega) (by omega)
        refine ⟨i - 1, by omega, ?_⟩
        rw [hh.2, show i - 1 + 1 = i by omega]
        exact es
  · obtain ⟨i, hi, _, e1, e2, _⟩ := hold j hj
    exact ⟨i, hi, e1, e2⟩
  · have hb : b = s0 := hinj b s0 rb hr0 d4.symm
    subst hb
    rcases hv with hv | hv
    · exact h5.2 i v a j0 b hi x y e ra hj0 (hv.symm.trans d3) hs0 rb
    · exact absurd ((nI_eq (a := 11) (by decide) (by omega)).mp (hv.symm.trans d3)) (by omega)
  · have hb : b = s0 := hinj b s0 rb hr0 d4.symm
    subst hb
    rcases hv with hv | hv
    · obtain ⟨i, hi, e0, g1, g2, g3, g4⟩ := hold j hj
      have hgi : gq i = gq j0 := by rw [← g1, e1, ← d3, hv]
      have : ¬ i < j0 := fun z => hd i z hgi
      exact h2.2 j0 i b c (by omega) hi hs0 (by rw [← g2]; exact e2) rb rc
    · exact absurd ((nI_eq (a := 11) (by decide) (by omega)).mp (hv.symm.trans d3)) (by omega)
end
