/-! class and model: what they have in common -/
def tOk (p : PSt) : Prop := pZ p ∧ gZ p.2.1
theorem copy_eq {p q : PSt} (hp : pZ p) (hq : pZ q) : pCopy p q = (q.1, p.2.1, q.2.2) := by
  obtain ⟨h, g, s, c, r⟩ := p
  obtain ⟨h', g', s', c', r'⟩ := q
  have e1 : cpyA 36 h' h = h' := by
    funext k
    unfold cpyA
    by_cases hk : k < 36
    · rw [if_pos hk]
    · rw [if_neg hk]
      exact (hp.1 k (by omega)).trans (hq.1 k (by omega)).symm
  have e2 : cpyA 60 s' s = s' := by
    funext k
    unfold cpyA
    by_cases hk : k < 60
    · rw [if_pos hk]
    · rw [if_neg hk]
      exact (hp.2.1 k (by omega)).trans (hq.2.1 k (by omega)).symm
  have e3 : cpyA 60 c' c = c' := by
    funext k
    unfold cpyA
    by_cases hk : k < 60
    · rw [if_pos hk]
    · rw [if_neg hk]
      exact (hp.2.2 k (by omega)).trans (hq.2.2 k (by omega)).symm
  show (cpyA 36 h' h, g, cpyA 60 s' s, cpyA 60 c' c, r') = (h', g, s', c', r')
  rw [e1, e2, e3]
theorem mE_pE {p q : PSt} (h : pE p q) : mE p = mE q := by
  obtain ⟨h1, g, r⟩ := p
  obtain ⟨h2, g', r'⟩ := q
  obtain ⟨e1, e2⟩ := h
  dsimp only at e1 e2
  subst e1
  subst e2
  rfl
theorem pG_pE {B : Int} {p q : PSt} (h : pE p q) (hp : pG B p) (hq : gZ q.2.1) : pG B q := by
  obtain ⟨h1, g, r⟩ := p
  obtain ⟨h2, g', r'⟩ := q
  obtain ⟨e1, e2⟩ := h
  dsimp only at e1 e2
  subst e1
  subst e2
  exact ⟨hp.1, hq, hp.2.2⟩
theorem copy_pE {p q : PSt} (hp : pZ p) (hq : pZ q) : pE q (pCopy p q) ∧ (pCopy p q).2.1 = p.2.1 := by
  rw [copy_eq hp hq]
  exact ⟨⟨rfl, rfl⟩, rfl⟩
theorem copy_pG {B : Int} {p q : PSt} (hp : tOk p) (hq : pG B q) : pG B (pCopy p q) := by
  have h := copy_pE hp.1 hq.1
  exact pG_pE h.1 hq (by rw [h.2]; exact hp.2)
theorem pG_tOk {B : Int} {p : PSt} (h : pG B p) : tOk p := ⟨h.1, h.2.1⟩
theorem pG_mono {B B' : Int} (hb : B ≤ B') {p : PSt} (h : pG B p) : pG B' p := ⟨h.1, h.2.1, fun k hk => ⟨(h.2.2.1 k hk).1, Int.le_trans (h.2.2.1 k hk).2 hb⟩, h.2.2.2⟩
def hAll (z : HSt) : Prop := tOk z.2.2.1 ∧ tOk z.2.2.2.1 ∧ tOk z.2.2.2.2.1 ∧ tOk z.2.2.2.2.2
theorem hAll_get {z : HSt} (h : hAll z) (t : Nat) : tOk (hGet t z) := by
  unfold hGet
  split
  · exact h.1
  · split
    · exact h.2.1
    · split
      · exact h.2.2.1
      · exact h.2.2.2
def h4 (t : Nat) : Prop := t = 2 ∨ t = 7 ∨ t = 12 ∨ t = 17
theorem hGet_put {z : HSt} {q : PSt} {t u : Nat} (ht : h4 t) (hu : h4 u) : hGet u (hPut t q z) = if u = t then pCopy (hGet u z) q else hGet u z := by
  obtain ⟨n, f, p0, p1, p2, p3⟩ := z
  rcases ht with rfl | rfl | rfl | rfl <;> rcases hu with rfl | rfl | rfl | rfl <;> rfl
theorem hAll_put {z : HSt} {q : PSt} {t : Nat} (h : hAll z) (hq : tOk q) : hAll (hPut t q z) := by
  obtain ⟨n, f, p0, p1, p2, p3⟩ := z
  have key : ∀ {p : PSt}, tOk p → tOk (pCopy p q) := by
    intro p hp
    have := copy_pE hp.1 hq.1
    rw [copy_eq hp.1 hq.1]
    exact ⟨hq.1, hp.2⟩
  have k2 : ∀ {p : PSt} (u : Nat), tOk p → tOk (if t = u then pCopy p q else p) := by
    intro p u hp
    split
    · exact key hp
    · exact hp
  exact ⟨k2 2 h.1, k2 7 h.2.1, k2 12 h.2.2.1, k2 17 h.2.2.2⟩
def hAt (z : HSt) (i : Nat) : PSt := hGet ((z.2.1 i).getD 0) z
/-- the class's history is the model's -/
def HR (B : Int) (z : HSt) (pa : Nat → Int32) (kn : Int32) : Prop := (hOk z.2.1 ∧ (∀ i j : Nat, i < 4 → j < 4 → z.2.1 i = z.2.1 j → i = j) ∧ hAll z) ∧ ∃ n : Nat, n ≤ 4 ∧ z.1 = nI n ∧ kn = nI n ∧ ∀ i : Nat, i < n → pG B (hAt z i) ∧ ∀ k : Nat, k < 164 → pa (164 * i + k) = mE (hAt z i) k
set_option maxHeartbeats 20000000 in
set_option maxRecDepth 100000 in
theorem ok_h4 {f : Nat → Option Nat} (h : hOk f) {i : Nat} (hi : i < 4) : ∃ t, f i = some t ∧ h4 t := by
  rcases h.1 i hi with e | e | e | e
  · exact ⟨2, e, Or.inl rfl⟩
  · exact ⟨7, e, Or.inr (Or.inl rfl)⟩
  · exact ⟨12, e, Or.inr (Or.inr (Or.inl rfl))⟩
  · exact ⟨17, e, Or.inr (Or.inr (Or.inr rfl))⟩
theorem HR_mono {B B' : Int} (hb : B ≤ B') {z : HSt} {pa : Nat → Int32} {kn : Int32} (h : HR B z pa kn) : HR B' z pa kn := by
  obtain ⟨h1, n, h2, h3, h4, h5⟩ := h
  exact ⟨h1, n, h2, h3, h4, fun i hi => ⟨pG_mono hb (h5 i hi).1, (h5 i hi).2⟩⟩
theorem va_cpy_in {f g : Nat → Int32} {dp k : Nat} (h : k < 164) : va_cpy f g 0 dp 164 (dp + k) = f k := by
  unfold va_cpy
  rw [if_pos ⟨by omega, by omega⟩]
  congr 1
  omega
theorem va_cpy_out {f g : Nat → Int32} {dp k : Nat} (h : k < dp) : va_cpy f g 0 dp 164 k = g k := by
  unfold va_cpy
  rw [if_neg (by omega)]
theorem HR_put {B : Int} {z : HSt} {pa : Nat → Int32} {n : Nat} {a : PSt} (h : HR B z pa (nI n)) (hn : n < 4) (hz : z.1 = nI n) (ha : pG B a) : HR B (hPut (hTop z) a z) (va_cpy (mE a) pa 0 (164 * n) 164) (nI (n + 1)) := by
  obtain ⟨⟨h1, h2, h3⟩, n', q1, q2, q3, q4⟩ := h
  have e : n' = n := (nI_eq (by omega) (by omega)).mp (q3.symm)
  subst e
  have et : hTop z = (z.2.1 n').getD 0 := by
    unfold hTop
    rw [hz, nI_clamp (by omega)]
  obtain ⟨t, t1, t2⟩ := ok_h4 h1 hn
  have et2 : hTop z = t := by
    rw [et, t1]
    rfl
  rw [et2]
  refine ⟨⟨h1, h2, hAll_put h3 (pG_tOk ha)⟩, n' + 1, by omega, by rw [hPut_n, hz, nI_succ], rfl, fun i hi => ?_⟩
  obtain ⟨u, u1, u2⟩ := ok_h4 h1 (show i < 4 by omega)
  have ea : hAt (hPut t a z) i = if u = t then pCopy (hGet u z) a else hGet u z := by
    show hGet (((hPut t a z).2.1 i).getD 0) (hPut t a z) = _
    rw [hPut_f, u1]
    exact hGet_put t2 u2
  have ez : hAt z i = hGet u z := by
    show hGet ((z.2.1 i).getD 0) z = _
    rw [u1]
    rfl
  rw [ea]
  by_cases hin : i = n'
  · subst hin
    have : u = t := by
      rw [t1] at u1
      cases u1
      rfl
    rw [if_pos this]
    have ht := hAll_get h3 u
    refine ⟨copy_pG ht ha, fun k hk => ?_⟩
    rw [va_cpy_in hk, mE_pE (copy_pE ht.1 ha.1).1]
  · have hne : ¬ u = t := by
      intro e
      subst e
      exact hin (h2 i n' (by omega) hn (u1.trans t1.symm))
    rw [if_neg hne, ← ez]
    have hq := q4 i (by omega)
    refine ⟨hq.1, fun k hk => ?_⟩
    rw [va_cpy_out (by omega)]
    exact hq.2 k hk
theorem HR_drop {B : Int} {z : HSt} {pa : Nat → Int32} (h : HR B z pa (nI 4)) : HR B (hDrop z) (shiftP pa) (nI 3) := by
  obtain ⟨⟨h1, h2, h3⟩, n, q1, q2, q3, q4⟩ := h
  have e : n = 4 := (nI_eq (by omega) (by omega)).mp (q3.symm)
  subst e
  have ef : (hDrop z).2.1 = hRot z.2.1 := rfl
  have er : ∀ i : Nat, i < 4 → hRot z.2.1 i = z.2.1 (if i = 3 then 0 else i + 1) := by
    intro i hi
    unfold hRot
    by_cases h3 : i = 3
    · rw [if_pos h3, if_pos h3]
    · rw [if_neg h3, if_pos (by omega), if_neg h3]
  refine ⟨⟨hOk_rot h1, fun i j hi hj e => ?_, h3⟩, 3, by omega, rfl, rfl, fun i hi => ?_⟩
  · rw [ef, er i hi, er j hj] at e
    have := h2 _ _ (by split <;> omega) (by split <;> omega) e
    split at this <;> split at this <;> omega
  · have ea : hAt (hDrop z) i = hAt z (i + 1) := by
      show hGet (((hDrop z).2.1 i).getD 0) (hDrop z) = hGet ((z.2.1 (i + 1)).getD 0) z
      rw [ef, er i (by omega), if_neg (by omega)]
      rfl
    rw [ea]
    have hq := q4 (i + 1) (by omega)
    refine ⟨hq.1, fun k hk => ?_⟩
    rw [← hq.2 k hk]
    unfold shiftP
    rw [if_pos (by omega)]
    congr 1
    omega
theorem HR_rec {B : Int} {z : HSt} {pa : Nat → Int32} {kn : Int32} {a : PSt} (h : HR B z pa kn) (ha : pG B a) : HR B (kseal (hRec a z)) (kRecP (mE a) pa kn).1 (kRecP (mE a) pa kn).2 := by
  rw [kseal_eq, kRecP, kseal_eq]
  have hh := h
  obtain ⟨_, n, q1, q2, q3, _⟩ := h
  subst q3
  unfold hRec recP
  by_cases h4 : n < 4
  · have e1 : z.1 < 4 := by
      rw [q2]
      exact show nI n < nI 4 from nI_lt h4 (by decide)
    have e2 : ¬ nI n = 4 := fun e => by
      have := (nI_eq (a := n) (b := 4) (by omega) (by omega)).mp e
      omega
    rw [if_pos e1, if_neg e2, nI_clamp (by omega), ← nI_succ]
    exact HR_put hh h4 q2 ha
  · have en : n = 4 := by omega
    subst en
    have e1 : ¬ z.1 < 4 := by
      rw [q2]
      decide
    rw [if_neg e1, if_pos (show nI 4 = 4 from rfl)]
    exact HR_put (HR_drop hh) (by decide) rfl ha
theorem dn_up (z : HSt) : zDn (zUp z) = z := by
  obtain ⟨n, f, p⟩ := z
  have e : hDn (hUp f) = f := by
    funext k
    unfold hDn hUp
    cases f k <;> simp
  show (n, hDn (hUp f), p) = _
  rw [e]
theorem up_dn {z : HSt} (h : hOk2 z.2.1) : zUp (zDn z) = z := by
  obtain ⟨n, f, p⟩ := z
  have e : hUp (hDn f) = f := by
    funext k
    unfold hDn hUp
    by_cases hk : k < 4
    · rcases h.1 k hk with e | e | e | e <;> (dsimp only at e; show Option.map _ (Option.map _ (f k)) = f k; rw [e]; rfl)
    · have e := h.2 k (by omega)
      dsimp only at e
      show Option.map _ (Option.map _ (f k)) = f k
      rw [e]
      rfl
  show (n, hUp (hDn f), p) = _
  rw [e]
/-- the class's text is the model's -/
def PadR (d : DSt) (pd : Nat → Int32) (ln : Int32) : Prop := (∃ n : Nat, n ≤ 60 ∧ d.2.2.2.2.1 = nI n ∧ ln = nI n ∧ ∀ i : Nat, i < n → d.1 i = pd i ∧ 33 ≤ (pd i).toInt ∧ (pd i).toInt ≤ 126) ∧ ∀ k : Nat, k < 20 → ¬ d.2.2.2.1 k < 0
def bK (k : Nat) : Int := 1000 + 200 * (k : Int)
theorem bK_ok {k : Nat} (h : k ≤ 512) : bOk (bK k) := by
  unfold bK bOk
  omega
theorem bK_le (k : Nat) : bK k ≤ bK (k + 1) := by
  unfold bK
  omega
/-- the relation of class and model -/
def Rel (k : Nat) (c : CSt) (m : RSt) : Prop :=
  (pG (bK k) c.1 ∧ m.1 = mE c.1 ∧ gZ m.2.2.2.2.2.1) ∧ tOk c.2.1 ∧ (tOk c.2.2.1 ∧ c.2.2.2.1 = m.2.2.2.2.2.2.2.2.1 ∧ (c.2.2.2.1 = 0 ∨ (pG (bK k) c.2.2.1 ∧ ∀ i : Nat, i < 164 → m.2.2.2.1 i = mE c.2.2.1 i))) ∧
  (xOk c.2.2.2.2.1 ∧ HR (bK k) (zDn c.2.2.2.2.1) m.2.2.1 m.2.2.2.2.2.2.2.1) ∧ PadR c.2.2.2.2.2.1 m.2.2.2.2.1 m.2.2.2.2.2.2.2.2.2.1
theorem Rel_mono {k : Nat} {c : CSt} {m : RSt} (h : Rel k c m) : Rel (k + 1) c m := by
  obtain ⟨⟨a1, a2, a3⟩, b, ⟨c1, c2, c3⟩, ⟨d1, d2⟩, e⟩ := h
  refine ⟨⟨pG_mono (bK_le k) a1, a2, a3⟩, b, ⟨c1, c2, ?_⟩, ⟨d1, HR_mono (bK_le k) d2⟩, e⟩
  rcases c3 with h | ⟨h1, h2⟩
  · exact Or.inl h
  · exact Or.inr ⟨pG_mono (bK_le k) h1, h2⟩
theorem Rel_ok {k : Nat} {c : CSt} {m : RSt} (h : Rel k c m) : xOk c.2.2.2.2.1 ∧ r7Ok m := by
  obtain ⟨⟨a1, a2, a3⟩, b, ⟨c1, c2, c3⟩, ⟨d1, d2⟩, ⟨n, e1, e2, e3, e4⟩, e5⟩ := h
  obtain ⟨_, n', q1, q2, q3, q4⟩ := d2
  refine ⟨d1, ?_, ⟨?_, ?_⟩, ?_, ?_⟩
  · rw [a2]
    exact sZ_E
  · rw [q3]
    exact nI_pos (by omega)
  · rw [q3]
    exact show nI n' ≤ nI 4 from nI_le q1 (by omega)
  · rw [e3]
    exact nI_pos (by omega)
  · rw [e3]
    exact show nI n ≤ nI 60 from nI_le e1 (by omega)
/-- a change: the state ahead of it is recorded, the new pane stands -/
theorem Rel_now {k : Nat} {a t s : PSt} {b : Int32} {h : HSt} {r} {a' : PSt} {fl' : Nat → Int32} {sg' : Int32} {m : RSt} (hr : Rel k (a, t, s, b, h, r) m) (ha' : pG (bK (k + 1)) a') (hf : gZ fl') :
    Rel (k + 1) (a', t, s, b, cRec a h, r) (mE a', m.2.1, (kRecP m.1 m.2.2.1 m.2.2.2.2.2.2.2.1).1, m.2.2.2.1, m.2.2.2.2.1, fl', m.2.2.2.2.2.2.1, (kRecP m.1 m.2.2.1 m.2.2.2.2.2.2.2.1).2, m.2.2.2.2.2.2.2.2.1, m.2.2.2.2.2.2.2.2.2.1, sg', m.2.2.2.2.2.2.2.2.2.2.2) := by
  have h1 := Rel_mono hr
  obtain ⟨⟨a1, a2, a3⟩, b, c, ⟨d1, d2⟩, e⟩ := h1
  refine ⟨⟨ha', rfl, hf⟩, b, c, ⟨cRec_ok d1, ?_⟩, e⟩
  show HR (bK (k + 1)) (zDn (zUp (kseal (hRec a (zDn h))))) _ _
  rw [dn_up]
  have a2 : m.1 = mE a := a2
  rw [a2]
  exact HR_rec d2 a1
