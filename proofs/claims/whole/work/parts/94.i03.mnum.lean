/-! ===== house: numbers, and what the reference does with them ===== -/
def pb {α β : Type} (r : Fl ⊕ α) (k : α → Fl ⊕ β) : Fl ⊕ β := match r with
  | .inl f => .inl f
  | .inr x => k x
def pPass (b : Nat → Nat) (n i : Nat) (t : TK) : Fl ⊕ TK := if isW b i t = true then .inr (adv b n t) else .inl (flt t 2)
def pNum (b : Nat → Nat) (n lo hi x : Nat) (t : TK) : Fl ⊕ (Nat × TK) := if t.1 = 2 then (if (lo ≤ t.2.2.2 ∧ t.2.2.2 ≤ hi) ∧ t.2.2.2 ≠ x then .inr (t.2.2.2, adv b n t) else .inl (flt t 3)) else .inl (flt t 2)
def NX : Nat := 100000
def pTold (b : Nat → Nat) (n i lo hi : Nat) (t : TK) : Fl ⊕ (Nat × TK) := pb (pPass b n i t) (pNum b n lo hi NX)
def pSides (b : Nat → Nat) (n m : Nat) (t : TK) : Fl ⊕ (Nat × Nat × Nat × TK) := pb (pNum b n 0 (m - 1) NX t) fun x => pb (pPass b n 2 x.2) fun t2 => pb (pNum b n 0 (m - 1) x.1 t2) fun y => pb (pTold b n 3 1 100 y.2) fun l => .inr (x.1, y.1, l.1, l.2)
theorem n00 : nI 0 = (0 : Int32) := rfl
theorem n10 : ¬ nI 1 = (0 : Int32) := by decide
section MNum
variable {A0 : Nat → Nat → Int32} {Z0 : Nat → Int32} {B : Nat → Nat → Int64} {Q : Nat → Int64} {P : Nat → Option Nat} {F : Nat → Nat → Option Nat} {q : Nat} {D : List xC} {c : Nat × Nat} {b : Nat → Nat} {n : Nat} {h : xH} {t : TK} {row : Nat → Nat} {f : Fl}
theorem m_within {h : xH} {v lo hi : Nat} (h1 : v < 2147483648) (h2 : lo < 2147483648) (h3 : hi < 2147483648) : f_X12_within h (nI v).toInt64 (nI lo).toInt64 (nI hi).toInt64 = some (if lo ≤ v ∧ v ≤ hi then nI 1 else nI 0) := by
  rw [within_spec]
  congr 1
  by_cases c1 : lo ≤ v ∧ v ≤ hi
  · rw [if_pos c1, if_pos]
    · rfl
    · rw [y_le h2 h1, y_le h1 h3]; exact c1
  · rw [if_neg c1, if_neg]
    · rfl
    · rw [y_le h2 h1, y_le h1 h3]; exact c1
def MN (A0 : Nat → Nat → Int32) (Z0 : Nat → Int32) (B : Nat → Nat → Int64) (Q : Nat → Int64) (P : Nat → Option Nat) (F : Nat → Nat → Option Nat) (q : Nat) (D : List xC) (c : Nat × Nat) (b : Nat → Nat) (n : Nat) (o : Option (Int32 × xH)) (r : Fl ⊕ (Nat × TK)) (row : Nat → Nat) : Prop := match r with
  | .inl f => ∃ w h', o = some (w, h') ∧ MB A0 Z0 B Q P F q D c h' f
  | .inr x => ∃ h', o = some (nI x.1, h') ∧ MG A0 Z0 B Q P F q D c b n h' x.2 row
def MR (A0 : Nat → Nat → Int32) (Z0 : Nat → Int32) (B : Nat → Nat → Int64) (Q : Nat → Int64) (P : Nat → Option Nat) (F : Nat → Nat → Option Nat) (q : Nat) (D : List xC) (c : Nat × Nat) (b : Nat → Nat) (n : Nat) (o : Option xH) (r : Fl ⊕ (TK × (Nat → Nat))) : Prop := match r with
  | .inl f => ∃ h', o = some h' ∧ MB A0 Z0 B Q P F q D c h' f
  | .inr x => ∃ h', o = some h' ∧ MG A0 Z0 B Q P F q D c b n h' x.1 x.2
theorem MG.g12 (H : MG A0 Z0 B Q P F q D c b n h t row) : gI h 57 12 12 = some (nI 0) := by
  obtain ⟨g, Z, rfl, o1, z0, z1, hT, hR⟩ := H
  rw [gf_57_12, z0]
theorem MB.g12 (H : MB A0 Z0 B Q P F q D c h f) : ∃ x, gI h 57 12 12 = some x ∧ ¬ x = 0 := by
  obtain ⟨g, Z, rfl, o1, z1, z2, k1, k2⟩ := H
  exact ⟨_, gf_57_12, MB.ne z1 k1 k2⟩
theorem MB.gi (H : MB A0 Z0 B Q P F q D c h f) : (∃ x, gI h 57 12 10 = some x) ∧ (∃ x, gI h 57 12 11 = some x) ∧ gR h 57 12 2 = some 60 := by
  obtain ⟨g, Z, rfl, o1, z1, z2, k1, k2⟩ := H
  exact ⟨⟨_, gf_57_10⟩, ⟨_, gf_57_11⟩, gf_57_2⟩
theorem MG.g2 (H : MG A0 Z0 B Q P F q D c b n h t row) : gR h 57 12 2 = some 60 := by
  obtain ⟨g, Z, rfl, o1, z0, z1, hT, hR⟩ := H
  exact gf_57_2
theorem MG.g10 (H : MG A0 Z0 B Q P F q D c b n h t row) : gI h 57 12 10 = some (nI t.1) := by
  obtain ⟨g, Z, rfl, o1, z0, z1, hT, hR⟩ := H
  rw [gf_57_10, z1.2.2.1]
theorem MG.ld (H : MG A0 Z0 B Q P F q D c b n h t row) {k : Nat} (hk : k < 448) : ldI h .int 60 (nI k) = some (nI (row k)) := by
  obtain ⟨g, Z, rfl, o1, z0, z1, hT, hR⟩ := H
  rw [ld_60 (by omega), y_us, hR.1 k hk]
theorem MG.st (H : MG A0 Z0 B Q P F q D c b n h t row) {k v : Nat} (hk : k < 448) : ∃ h', stI h .int 60 (nI k) (nI v) = some h' ∧ MG A0 Z0 B Q P F q D c b n h' t (va_up row k v) := by
  obtain ⟨g, Z, rfl, o1, z0, z1, hT, hR⟩ := H
  refine ⟨_, st_60 (by omega), va_up g k (nI v), Z, by rw [y_uu, y_us], o1, z0, z1, hT, fun j hj => ?_, fun r hr => ?_, fun r hr => ?_⟩
  · by_cases e : j = k
    · rw [e, y_vs, y_vs]
    · rw [y_vn e, y_vn e]; exact hR.1 j hj
  · rw [y_vn (by omega)]; exact hR.2.1 r hr
  · rw [y_vn (by omega)]; exact hR.2.2 r hr
theorem MB.ld (H : MB A0 Z0 B Q P F q D c h f) {k : Nat} (hk : k < 480) : ∃ v, ldI h .int 60 (nI k) = some v := by
  obtain ⟨g, Z, rfl, o1, z1, z2, k1, k2⟩ := H
  exact ⟨_, ld_60 hk⟩
theorem MB.st (H : MB A0 Z0 B Q P F q D c h f) {k : Nat} {v : Int32} (hk : k < 480) : ∃ h', stI h .int 60 (nI k) v = some h' ∧ MB A0 Z0 B Q P F q D c h' f := by
  obtain ⟨g, Z, rfl, o1, z1, z2, k1, k2⟩ := H
  exact ⟨_, st_60 hk, va_up g k v, Z, by rw [y_uu, y_us], o1, z1, z2, k1, k2⟩
theorem mb_num44 {x : Int32} (H : MB A0 Z0 B Q P F q D c h f) : f_X12_numberBut_44 h 57 x = some (x, h) := by
  obtain ⟨⟨_, g10⟩, ⟨_, g11⟩, _⟩ := H.gi
  obtain ⟨_, g12, n12⟩ := H.g12
  unfold f_X12_numberBut_44 f_X12_numberBut_61
  rw [g11, Option.bind_some, g12, Option.bind_some, if_neg n12, Option.bind_some, if_neg n12]
theorem mb_numBut {lo hi x : Int32} (H : MB A0 Z0 B Q P F q D c h f) : f_X12_numberBut h 57 lo hi x = some (lo, h) := by
  obtain ⟨⟨v10, g10⟩, ⟨v11, g11⟩, _⟩ := H.gi
  obtain ⟨_, ho⟩ := H.o
  have e39 : f_X12_numberBut_39 h 57 lo = some (lo, h) := by
    unfold f_X12_numberBut_39
    rw [ho, Option.bind_some, mb_blames H, Option.bind_some, mb_num44 H]
  unfold f_X12_numberBut
  rw [g10, Option.bind_some, g11, Option.bind_some, within_spec, Option.bind_some, Option.bind_some, ho, Option.bind_some, mb_blames H, Option.bind_some, mb_num44 H, e39]
  simp only [ite_self]
theorem mb_number {lo hi : Int32} (H : MB A0 Z0 B Q P F q D c h f) : f_X12_number h 57 lo hi = some (lo, h) := by
  obtain ⟨_, ho⟩ := H.o
  unfold f_X12_number
  rw [ho, Option.bind_some, mb_numBut H, Option.bind_some]
theorem mb_told {i : Nat} {lo hi : Int32} (hi2 : i < 18) (H : MB A0 Z0 B Q P F q D c h f) : f_X12_told h 57 (xS0 + 2 * i) lo hi = some (lo, h) := by
  obtain ⟨_, ho⟩ := H.o
  unfold f_X12_told f_X12_told_13
  rw [ho, Option.bind_some, mb_took hi2 H, Option.bind_some, if_pos n00]
  dsimp only
  rw [ho, Option.bind_some, mb_blames H, Option.bind_some, ho, Option.bind_some, mb_number H, Option.bind_some]
theorem mb_room (H : MB A0 Z0 B Q P F q D c h f) : f_X12_room h 57 = some (0, h) := by
  obtain ⟨_, ho⟩ := H.o
  obtain ⟨v, hl⟩ := H.ld (k := 1) (by decide)
  unfold f_X12_room
  rw [H.gi.2.2, Option.bind_some, show (1 : Int32) = nI 1 from rfl, hl, Option.bind_some, ho, Option.bind_some, mb_number H, Option.bind_some]
theorem mg_numBut (hn : n ≤ 800) (h20 : Z0 20 = nI n) (hb : ∀ k, k < n → A0 62 k = nI (b k) ∧ b k < 256) {lo hi x : Nat} {xi : Int32} (hlo : lo < 2147483648) (hhi : hi < 2147483648) (hx : ∀ v, v < 100000 → (nI v = xi ↔ v = x)) (H : MG A0 Z0 B Q P F q D c b n h t row) : MN A0 Z0 B Q P F q D c b n (f_X12_numberBut h 57 (nI lo) (nI hi) xi) (pNum b n lo hi x t) row := by
  have H0 := H
  obtain ⟨_, ho⟩ := H.o
  have g12 := H.g12
  have g10 := H.g10
  obtain ⟨hr, er, Hr⟩ := mg_reads hn h20 hb H
  have gr12 := Hr.g12
  obtain ⟨h3, e3, H3⟩ := mg_blames (k := 3) (by decide) (by decide) hn H
  obtain ⟨h2, e2, H2⟩ := mg_blames (k := 2) (by decide) (by decide) hn H
  obtain ⟨g, Z, rfl, o1, z0, ⟨z1, z2, z3, z4⟩, hT, hR⟩ := H
  obtain ⟨t1, t2, t3, t4, t5⟩ := hT.sp hn
  unfold f_X12_numberBut pNum
  rw [g10, Option.bind_some]
  by_cases c1 : t.1 = 2
  · rw [if_pos (by rw [c1]; rfl), if_pos c1, gf_57_11, Option.bind_some, z4 c1, m_within (by omega) hlo hhi, Option.bind_some]
    have e39 : f_X12_numberBut_39 (HH (upA A0 60 g) Z B Q P F q D c) 57 (nI lo) = some (nI lo, h3) := by
      unfold f_X12_numberBut_39
      rw [ho, Option.bind_some, show (3 : Int32) = nI 3 from rfl, e3, Option.bind_some, mb_num44 H3]
    by_cases c2 : lo ≤ t.2.2.2 ∧ t.2.2.2 ≤ hi
    · rw [if_pos c2, if_neg (by decide), Option.bind_some]
      by_cases c3 : t.2.2.2 = x
      · rw [if_pos ((hx _ t5).mpr c3), if_neg (fun h => h.2 c3)]
        exact ⟨_, h3, e39, H3⟩
      · rw [if_neg (fun h => c3 ((hx _ t5).mp h)), if_pos ⟨c2, c3⟩]
        refine ⟨hr, ?_, Hr⟩
        unfold f_X12_numberBut_44 f_X12_numberBut_61
        rw [gf_57_11, Option.bind_some, g12, Option.bind_some, if_pos (by decide), ho, Option.bind_some, er, Option.bind_some, gr12, Option.bind_some, if_pos (by decide), z4 c1]
    · rw [if_neg c2, if_pos (by decide), if_neg (fun h => c2 h.1)]
      exact ⟨_, h3, e39, H3⟩
  · rw [if_neg (by rw [show (2 : Int32) = nI 2 from rfl, y_eq (by omega) (by omega)]; exact c1), if_neg c1, ho, Option.bind_some, show (2 : Int32) = nI 2 from rfl, e2, Option.bind_some, mb_num44 H2]
    exact ⟨_, h2, rfl, H2⟩
theorem hx_none : ∀ v, v < 100000 → (nI v = (-1 : Int32) ↔ v = NX) := fun v hv => by
  constructor
  · intro h
    have h2 : nI v = nM := h
    rw [y_eqM (by omega)] at h2
    exact h2.elim
  · intro h
    have : NX = 100000 := rfl
    omega
theorem mg_number (hn : n ≤ 800) (h20 : Z0 20 = nI n) (hb : ∀ k, k < n → A0 62 k = nI (b k) ∧ b k < 256) {lo hi : Nat} (hlo : lo < 2147483648) (hhi : hi < 2147483648) (H : MG A0 Z0 B Q P F q D c b n h t row) : MN A0 Z0 B Q P F q D c b n (f_X12_number h 57 (nI lo) (nI hi)) (pNum b n lo hi NX t) row := by
  obtain ⟨_, ho⟩ := H.o
  have h1 := mg_numBut hn h20 hb hlo hhi hx_none H
  unfold f_X12_number
  rw [ho, Option.bind_some]
  cases hp : pNum b n lo hi NX t with
  | inl f =>
    rw [hp] at h1
    obtain ⟨w, h', e, g⟩ := h1
    exact ⟨w, h', by rw [e, Option.bind_some], g⟩
  | inr x =>
    rw [hp] at h1
    obtain ⟨h', e, g⟩ := h1
    exact ⟨h', by rw [e, Option.bind_some], g⟩
theorem mg_told (hn : n ≤ 800) (h20 : Z0 20 = nI n) (hb : ∀ k, k < n → A0 62 k = nI (b k) ∧ b k < 256) {i lo hi : Nat} (hi2 : i < 18) (hlo : lo < 2147483648) (hhi : hi < 2147483648) (H : MG A0 Z0 B Q P F q D c b n h t row) : MN A0 Z0 B Q P F q D c b n (f_X12_told h 57 (xS0 + 2 * i) (nI lo) (nI hi)) (pTold b n i lo hi t) row := by
  obtain ⟨_, ho⟩ := H.o
  obtain ⟨w1, w2⟩ := mg_took hi2 hn h20 hb H
  unfold f_X12_told f_X12_told_13 pTold pPass
  rw [ho, Option.bind_some]
  cases hw : isW b i t
  · obtain ⟨h2, e2, H2⟩ := mg_blames (k := 2) (by decide) (by decide) hn H
    obtain ⟨_, ho2⟩ := H2.o
    rw [w2 hw, Option.bind_some, if_pos n00, if_neg (by decide)]
    refine ⟨nI lo, h2, ?_, H2⟩
    dsimp only
    rw [ho, Option.bind_some, show (2 : Int32) = nI 2 from rfl, e2, Option.bind_some, ho2, Option.bind_some, mb_number H2, Option.bind_some]
  · obtain ⟨h', e1, H1⟩ := w1 hw
    obtain ⟨_, ho1⟩ := H1.o
    rw [e1, Option.bind_some, if_neg n10, if_pos rfl]
    show MN A0 Z0 B Q P F q D c b n _ (pNum b n lo hi NX (adv b n t)) row
    have h1 := mg_number hn h20 hb hlo hhi H1
    dsimp only
    rw [ho1, Option.bind_some]
    cases hp : pNum b n lo hi NX (adv b n t) with
    | inl f =>
      rw [hp] at h1
      obtain ⟨w, h', e, g⟩ := h1
      exact ⟨w, h', by rw [e, Option.bind_some], g⟩
    | inr x =>
      rw [hp] at h1
      obtain ⟨h', e, g⟩ := h1
      exact ⟨h', by rw [e, Option.bind_some], g⟩
theorem mg_room (hn : n ≤ 800) (h20 : Z0 20 = nI n) (hb : ∀ k, k < n → A0 62 k = nI (b k) ∧ b k < 256) (hm : 0 < row 1) (hm2 : row 1 ≤ 16) (H : MG A0 Z0 B Q P F q D c b n h t row) : MN A0 Z0 B Q P F q D c b n (f_X12_room h 57) (pNum b n 0 (row 1 - 1) NX t) row := by
  obtain ⟨_, ho⟩ := H.o
  have h1 := mg_number hn h20 hb (lo := 0) (hi := row 1 - 1) (by decide) (by omega) H
  unfold f_X12_room
  rw [H.g2, Option.bind_some, show (1 : Int32) = nI 1 from rfl, H.ld (by decide), Option.bind_some, ho, Option.bind_some, y_sub (by omega), show (0 : Int32) = nI 0 from rfl]
  cases hp : pNum b n 0 (row 1 - 1) NX t with
  | inl f =>
    rw [hp] at h1
    obtain ⟨w, h', e, g⟩ := h1
    exact ⟨w, h', by rw [e, Option.bind_some], g⟩
  | inr x =>
    rw [hp] at h1
    obtain ⟨h', e, g⟩ := h1
    exact ⟨h', by rw [e, Option.bind_some], g⟩
end MNum
