/-! copies, the history: rows of whole's proof that speak of the class alone -/
def tOk (p : PSt) : Prop := pZ p ∧ gZ p.2.1
theorem copy_eq {p q : PSt} (hp : pZ p) (hq : pZ q) : pCopy p q = (q.1, p.2.1, q.2.2) := by
  obtain ⟨h, g, s, c, r⟩ := p
  obtain ⟨h', g', s', c', r'⟩ := q
  have e1 : cpyA 36 h' h = h' := by
    funext k
    unfold cpyA
    by_cases hk : k < 36
    · rw [if_pos hk]
    · rw [if_neg hk]
      exact (hp.1 k (by omega)).trans (hq.1 k (by omega)).symm
  have e2 : cpyA 60 s' s = s' := by
    funext k
    unfold cpyA
    by_cases hk : k < 60
    · rw [if_pos hk]
    · rw [if_neg hk]
      exact (hp.2.1 k (by omega)).trans (hq.2.1 k (by omega)).symm
  have e3 : cpyA 60 c' c = c' := by
    funext k
    unfold cpyA
    by_cases hk : k < 60
    · rw [if_pos hk]
    · rw [if_neg hk]
      exact (hp.2.2 k (by omega)).trans (hq.2.2 k (by omega)).symm
  show (cpyA 36 h' h, g, cpyA 60 s' s, cpyA 60 c' c, r') = (h', g, s', c', r')
  rw [e1, e2, e3]
theorem copy_pE {p q : PSt} (hp : pZ p) (hq : pZ q) : pE q (pCopy p q) ∧ (pCopy p q).2.1 = p.2.1 := by
  rw [copy_eq hp hq]
  exact ⟨⟨rfl, rfl⟩, rfl⟩
theorem pG_pE {B : Int} {p q : PSt} (h : pE p q) (hp : pG B p) (hq : gZ q.2.1) : pG B q := by
  obtain ⟨h1, g, r⟩ := p
  obtain ⟨h2, g', r'⟩ := q
  obtain ⟨e1, e2⟩ := h
  dsimp only at e1 e2
  subst e1
  subst e2
  exact ⟨hp.1, hq, hp.2.2⟩
theorem copy_pG {B : Int} {p q : PSt} (hp : tOk p) (hq : pG B q) : pG B (pCopy p q) := by
  have h := copy_pE hp.1 hq.1
  exact pG_pE h.1 hq (by rw [h.2]; exact hp.2)
theorem pG_mono {B B' : Int} (hb : B ≤ B') {p : PSt} (h : pG B p) : pG B' p := ⟨h.1, h.2.1, fun k hk => ⟨(h.2.2.1 k hk).1, Int.le_trans (h.2.2.1 k hk).2 hb⟩, h.2.2.2⟩
theorem pG_tOk {B : Int} {p : PSt} (h : pG B p) : tOk p := ⟨h.1, h.2.1⟩
def hAll (z : HSt) : Prop := tOk z.2.2.1 ∧ tOk z.2.2.2.1 ∧ tOk z.2.2.2.2.1 ∧ tOk z.2.2.2.2.2
theorem hAll_get {z : HSt} (h : hAll z) (t : Nat) : tOk (hGet t z) := by
  unfold hGet
  split
  · exact h.1
  · split
    · exact h.2.1
    · split
      · exact h.2.2.1
      · exact h.2.2.2
def h4 (t : Nat) : Prop := t = 2 ∨ t = 7 ∨ t = 12 ∨ t = 17
theorem hGet_put {z : HSt} {q : PSt} {t u : Nat} (ht : h4 t) (hu : h4 u) : hGet u (hPut t q z) = if u = t then pCopy (hGet u z) q else hGet u z := by
  obtain ⟨n, f, p0, p1, p2, p3⟩ := z
  rcases ht with rfl | rfl | rfl | rfl <;> rcases hu with rfl | rfl | rfl | rfl <;> rfl
theorem hAll_put {z : HSt} {q : PSt} {t : Nat} (h : hAll z) (hq : tOk q) : hAll (hPut t q z) := by
  obtain ⟨n, f, p0, p1, p2, p3⟩ := z
  have key : ∀ {p : PSt}, tOk p → tOk (pCopy p q) := by
    intro p hp
    have := copy_pE hp.1 hq.1
    rw [copy_eq hp.1 hq.1]
    exact ⟨hq.1, hp.2⟩
  have k2 : ∀ {p : PSt} (u : Nat), tOk p → tOk (if t = u then pCopy p q else p) := by
    intro p u hp
    split
    · exact key hp
    · exact hp
  exact ⟨k2 2 h.1, k2 7 h.2.1, k2 12 h.2.2.1, k2 17 h.2.2.2⟩
def hAt (z : HSt) (i : Nat) : PSt := hGet ((z.2.1 i).getD 0) z
set_option maxHeartbeats 20000000 in
set_option maxRecDepth 100000 in
theorem ok_h4 {f : Nat → Option Nat} (h : hOk f) {i : Nat} (hi : i < 4) : ∃ t, f i = some t ∧ h4 t := by
  rcases h.1 i hi with e | e | e | e
  · exact ⟨2, e, Or.inl rfl⟩
  · exact ⟨7, e, Or.inr (Or.inl rfl)⟩
  · exact ⟨12, e, Or.inr (Or.inr (Or.inl rfl))⟩
  · exact ⟨17, e, Or.inr (Or.inr (Or.inr rfl))⟩
theorem dn_up (z : HSt) : zDn (zUp z) = z := by
  obtain ⟨n, f, p⟩ := z
  have e : hDn (hUp f) = f := by
    funext k
    unfold hDn hUp
    cases f k <;> simp
  show (n, hDn (hUp f), p) = _
  rw [e]
theorem up_dn {z : HSt} (h : hOk2 z.2.1) : zUp (zDn z) = z := by
  obtain ⟨n, f, p⟩ := z
  have e : hUp (hDn f) = f := by
    funext k
    unfold hDn hUp
    by_cases hk : k < 4
    · rcases h.1 k hk with e | e | e | e <;> (dsimp only at e; show Option.map _ (Option.map _ (f k)) = f k; rw [e]; rfl)
    · have e := h.2 k (by omega)
      dsimp only at e
      show Option.map _ (Option.map _ (f k)) = f k
      rw [e]
      rfl
  show (n, hUp (hDn f), p) = _
  rw [e]
def bK (k : Nat) : Int := 1000 + 200 * (k : Int)
theorem bK_ok {k : Nat} (h : k ≤ 512) : bOk (bK k) := by
  unfold bK bOk
  omega
theorem bK_le (k : Nat) : bK k ≤ bK (k + 1) := by
  unfold bK
  omega
