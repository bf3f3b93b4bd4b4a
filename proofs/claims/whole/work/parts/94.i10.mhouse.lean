/-! ===== house: all lines; the reference's call ===== -/
def brow (k : Nat) : Nat := if k = 6 then 50 else if 416 ≤ k ∧ k < 432 then 10 else 0
def pIt (b : Nat → Nat) (n : Nat) : Nat → PR
  | 0 => .inr (tok b n 0, brow)
  | j + 1 => pb (pIt b n j) fun x => if x.1.1 = 0 then .inr x else pLine b n x.1 x.2
theorem brow_wf : HWf brow := by
  have h : ∀ k, brow k ≤ 50 := fun k => by unfold brow; split; omega; split; omega; omega
  have z : ∀ k, k ≠ 6 → (k < 416 ∨ 432 ≤ k) → brow k = 0 := fun k h1 h2 => by unfold brow; rw [if_neg h1, if_neg (by omega)]
  refine ⟨fun k => by have := h k; omega, by rw [z 0 (by decide) (by decide)]; decide, by rw [z 1 (by decide) (by decide)]; decide, by rw [z 2 (by decide) (by decide)]; decide, by rw [z 3 (by decide) (by decide)]; decide, by rw [z 4 (by decide) (by decide)]; decide, by rw [z 5 (by decide) (by decide)]; decide, by have := h 6; omega, fun i hi => ?_, fun i hi => ?_, fun i hi => ?_, fun i hi => ?_, fun r _ => by have := h (416 + r); omega, fun r hr => ?_⟩
  · rw [z 2 (by decide) (by decide)] at hi; omega
  · rw [z 3 (by decide) (by decide)] at hi; omega
  · rw [z 4 (by decide) (by decide)] at hi; omega
  · rw [z 5 (by decide) (by decide)] at hi; omega
  · rw [z (432 + r) (by omega) (by omega)]; exact Nat.two_pow_pos _
section PIt
variable {b : Nat → Nat} {n : Nat}
theorem wf_0 {row : Nat → Nat} (hW : HWf row) {v : Nat} (hv : v ≤ 800) : HWf (va_up row 0 v) := by
  have ev : ∀ j, j ≠ 0 → va_up row 0 v j = row j := fun j hj => y_vn hj
  have v0 : va_up row 0 v 0 = v := y_vs
  generalize va_up row 0 v = r at *
  have e1 := ev 1 (by decide)
  refine ⟨fun k => ?_, by omega, by rw [e1]; exact hW.ro, by rw [ev 2 (by omega)]; exact hW.pa, by rw [ev 3 (by omega)]; exact hW.ki, by rw [ev 4 (by omega)]; exact hW.wa, by rw [ev 5 (by omega)]; exact hW.ho, by rw [ev 6 (by omega)]; exact hW.de, k_pane hW e1 (ev 2 (by omega)) (fun j j1 j2 => ev j (by omega)), k_lamp hW (ev 3 (by omega)) (fun j j1 j2 => ev j (by omega)), k_want hW e1 (ev 4 (by omega)) (fun j j1 j2 => ev j (by omega)), k_hole hW e1 (ev 5 (by omega)) (fun j j1 j2 => ev j (by omega)), k_burn hW (fun j j1 j2 => ev j (by omega)), k_hate hW e1 (fun j j1 j2 => ev j (by omega))⟩
  by_cases e : k = 0
  · rw [e, v0]; omega
  · rw [ev k e]; exact hW.b k
theorem pIt_inv (hn : n ≤ 800) : ∀ j x, pIt b n j = .inr x → IsT b n x.1 ∧ HWf x.2 ∧ x.2 0 ≤ x.1.2.1 ∧ (x.1.1 ≠ 0 → x.2 0 = j)
  | 0, x, h => by
    cases h
    exact ⟨⟨0, Nat.zero_le _, rfl⟩, brow_wf, Nat.zero_le _, fun _ => rfl⟩
  | j + 1, x, h => by
    obtain ⟨y, h1, h2⟩ := pb_inr h
    obtain ⟨a1, a2, a3, a4⟩ := pIt_inv hn j y h1
    split at h2
    · rename_i c1
      cases h2
      exact ⟨a1, a2, a3, fun h => absurd c1 h⟩
    · rename_i c1
      have a5 := a4 c1
      obtain ⟨s1, s2, s3, s4, s5⟩ := a1.sp hn
      have s6 := s4 c1
      obtain ⟨z, h3, h4⟩ := pb_inr h2
      obtain ⟨k1, k2, k3⟩ := kl_line0 hn a1 a2 h3
      split at h4
      · rename_i c3
        cases h4
        obtain ⟨m1, m2⟩ := adv_t hn k1.1
        have m3 := m2 (by omega)
        have m4 := k1.2
        have v0 : va_up z.2 0 (z.2 0 + 1) 0 = z.2 0 + 1 := y_vs
        refine ⟨m1.1, wf_0 k2 (by omega), ?_, fun _ => ?_⟩
        · show va_up z.2 0 (z.2 0 + 1) 0 ≤ (adv b n z.1).2.1
          omega
        · show va_up z.2 0 (z.2 0 + 1) 0 = j + 1
          omega
      · cases h4
theorem pIt_end (hn : n ≤ 800) {j : Nat} (hj : 800 ≤ j) {x : TK × (Nat → Nat)} (h : pIt b n j = .inr x) : x.1.1 = 0 := by
  obtain ⟨a1, a2, a3, a4⟩ := pIt_inv hn j x h
  obtain ⟨s1, s2, s3, s4, s5⟩ := a1.sp hn
  apply Classical.byContradiction
  intro hc
  have := s4 hc
  have := a4 hc
  omega
theorem pIt_bad {j : Nat} {f : Fl} (h : pIt b n j = .inl f) : ∀ k, pIt b n (j + k) = .inl f
  | 0 => h
  | k + 1 => by rw [← Nat.add_assoc, pIt, pIt_bad h k]; rfl
theorem pIt_good {j : Nat} {x : TK × (Nat → Nat)} (h : pIt b n j = .inr x) (h0 : x.1.1 = 0) : ∀ k, pIt b n (j + k) = .inr x
  | 0 => h
  | k + 1 => by
    rw [← Nat.add_assoc, pIt, pIt_good h h0 k]
    show (if x.1.1 = 0 then _ else _) = _
    rw [if_pos h0]
end PIt
section MHouse
variable {A0 : Nat → Nat → Int32} {Z0 : Nat → Int32} {B : Nat → Nat → Int64} {Q : Nat → Int64} {P : Nat → Option Nat} {F : Nat → Nat → Option Nat} {q : Nat} {D : List xC} {c : Nat × Nat} {b : Nat → Nat} {n : Nat} {h : xH} {t : TK} {row : Nat → Nat} {f : Fl}
theorem m_loop (hn : n ≤ 800) (h20 : Z0 20 = nI n) (hb : ∀ k, k < n → A0 62 k = nI (b k) ∧ b k < 256) (H : MG A0 Z0 B Q P F q D c b n h (tok b n 0) brow) : ∃ h', f_X12_house_56 xFU h 57 = f_X12_house_77 h' 57 ∧ ((∃ x, pIt b n 801 = .inr x ∧ MG A0 Z0 B Q P F q D c b n h' x.1 x.2) ∨ (∃ f, pIt b n 801 = .inl f ∧ MB A0 Z0 B Q P F q D c h' f)) := by
  have ebad : ∀ m h f, MB A0 Z0 B Q P F q D c h f → f_X12_house_56 (m + 1) h 57 = f_X12_house_77 h 57 := by
    intro m h f g
    obtain ⟨_, g12, n12⟩ := g.g12
    rw [f_X12_house_56, g12, Option.bind_some, if_neg n12]
  have eend : ∀ m h t row, MG A0 Z0 B Q P F q D c b n h t row → t.1 = 0 → f_X12_house_56 (m + 1) h 57 = f_X12_house_77 h 57 := by
    intro m h t row g h0
    rw [f_X12_house_56, g.g12, Option.bind_some, if_pos n00, g.g10, Option.bind_some, h0, if_pos n00]
  have key := loop_I (F := fun m j (h : xH) => f_X12_house_56 m h 57) (N := 801) (fun h => f_X12_house_77 h 57) (fun j h => (∃ x, pIt b n j = .inr x ∧ MG A0 Z0 B Q P F q D c b n h x.1 x.2) ∨ (∃ f, pIt b n j = .inl f ∧ MB A0 Z0 B Q P F q D c h f)) (fun h => (∃ x, pIt b n 801 = .inr x ∧ MG A0 Z0 B Q P F q D c b n h x.1 x.2) ∨ (∃ f, pIt b n 801 = .inl f ∧ MB A0 Z0 B Q P F q D c h f)) (fun m j h hj hh => ?_) (fun m h hh => ?_) (by decide) (s := h) (Or.inl ⟨_, rfl, H⟩)
  · obtain ⟨h', e, hp⟩ := key
    exact ⟨h', e, hp⟩
  · rcases hh with ⟨x, hx, g⟩ | ⟨f, hf, g⟩
    · by_cases c1 : x.1.1 = 0
      · right
        have := pIt_good hx c1 (801 - j)
        rw [show j + (801 - j) = 801 by omega] at this
        exact ⟨h, eend m h _ _ g c1, Or.inl ⟨x, this, g⟩⟩
      · left
        obtain ⟨a1, a2, a3, a4⟩ := pIt_inv hn j x hx
        have s3 := (a1.sp hn).2.2.1
        obtain ⟨_, ho⟩ := g.o
        have h1 := mg_line hn h20 hb a2 g
        have hs : pIt b n (j + 1) = pLine b n x.1 x.2 := by
          rw [pIt, hx]
          show (if x.1.1 = 0 then _ else _) = _
          rw [if_neg c1]
        have es : ∀ h', f_X12_readLine h 57 = some h' → f_X12_house_56 (m + 1) h 57 = f_X12_house_56 m h' 57 := fun h' e => by
          rw [f_X12_house_56, g.g12, Option.bind_some, if_pos n00, g.g10, Option.bind_some, if_neg (by rw [show (0 : Int32) = nI 0 from rfl, y_eq (by omega) (by omega)]; exact c1), ho, Option.bind_some, e, Option.bind_some]
        cases hp : pLine b n x.1 x.2 with
        | inl f =>
          rw [hp] at h1 hs
          obtain ⟨h', e, g'⟩ := h1
          exact ⟨h', es h' e, Or.inr ⟨f, hs, g'⟩⟩
        | inr y =>
          rw [hp] at h1 hs
          obtain ⟨h', e, g'⟩ := h1
          exact ⟨h', es h' e, Or.inl ⟨y, hs, g'⟩⟩
    · right
      have := pIt_bad hf (801 - j)
      rw [show j + (801 - j) = 801 by omega] at this
      exact ⟨h, ebad m h f g, Or.inr ⟨f, this, g⟩⟩
  · rcases hh with ⟨x, hx, g⟩ | ⟨f, hf, g⟩
    · exact ⟨h, eend m h _ _ g (pIt_end hn (by decide) hx), Or.inl ⟨x, hx, g⟩⟩
    · exact ⟨h, ebad m h f g, Or.inr ⟨f, hf, g⟩⟩
end MHouse
