/-! ===== carried: the pure part ===== -/
theorem way_self {tt : Nat → Nat} (hW : HWf tt) {a : Nat} (ha : a < tt 1) : way tt a a = 0 := by
  obtain ⟨d1, d2⟩ := dst_wk hW (b := a) ha
  have h := d2 0 rfl
  unfold way
  generalize dst tt a a = d at *
  rw [if_pos ⟨ha, h.2⟩]
  omega
theorem way_tri {tt : Nat → Nat} (hW : HWf tt) {a m b : Nat} (ha : a < tt 1) (hm : m < tt 1) : way tt a b ≤ way tt a m + way tt m b := by
  obtain ⟨x1, x2⟩ := dst_wk hW (b := m) ha
  obtain ⟨y1, y2⟩ := dst_wk hW (b := b) hm
  obtain ⟨z1, z2⟩ := dst_wk hW (b := b) ha
  unfold way
  generalize dst tt a m = dx at *
  generalize dst tt m b = dy at *
  generalize dst tt a b = dz at *
  by_cases h1 : dx < 16
  · by_cases h2 : dy < 16
    · have h3 := z2 _ (Wk_cat hW (x1 h1) (y1 h2))
      rw [if_pos (c := a < tt 1 ∧ dz < 16) ⟨ha, h3.2⟩, if_pos (c := a < tt 1 ∧ dx < 16) ⟨ha, h1⟩, if_pos (c := m < tt 1 ∧ dy < 16) ⟨hm, h2⟩]
      exact h3.1
    · rw [if_neg (c := m < tt 1 ∧ dy < 16) (fun h => h2 h.2)]
      unfold FAR
      split <;> split <;> omega
  · rw [if_neg (c := a < tt 1 ∧ dx < 16) (fun h => h1 h.2)]
    unfold FAR
    split <;> split <;> omega
/-- both lamps' ways -/
def wlk (tt : Nat → Nat) (n s u : Nat) : Nat := way tt (s / 16) (u / 16) + (if n = 2 then way tt (s % 16) (u % 16) else 0)
def plc (tt : Nat → Nat) (n s : Nat) : Prop := s / 16 < tt 1 ∧ s % 16 < sec tt n
def cs (tt : Nat → Nat) (n last k s : Nat) : Nat := csm tt n last k (s / 16) (s % 16)
theorem sec_le {tt : Nat → Nat} {n : Nat} : sec tt n ≤ tt 1 := by
  unfold sec
  split <;> omega
theorem cs_0 {tt : Nat → Nat} {n last s : Nat} : cs tt n last 0 s = if sdf (need tt last) (lgt tt n (s / 16) (s % 16)) = 0 then 0 else FAR := by
  unfold cs
  rw [csm]
theorem cs_s {tt : Nat → Nat} {n last k s : Nat} : cs tt n last (k + 1) s = if sdf (need tt (last - (k + 1))) (lgt tt n (s / 16) (s % 16)) = 0 then minf (fun u => if u / 16 < tt 1 ∧ u % 16 < sec tt n then wlk tt n s u + cs tt n last k u else FAR) FAR 256 else FAR := by
  unfold cs wlk
  rw [csm]
theorem cs_le {tt : Nat → Nat} {n last k s : Nat} : cs tt n last k s ≤ FAR := by
  cases k with
  | zero => rw [cs_0]; split <;> simp [FAR]
  | succ k =>
    rw [cs_s]
    split
    · exact minf_top _
    · exact Nat.le_refl _
theorem wlk_self {tt : Nat → Nat} (hW : HWf tt) {n s : Nat} (h : plc tt n s) : wlk tt n s s = 0 := by
  have := sec_le (tt := tt) (n := n)
  unfold wlk
  rw [way_self hW h.1]
  split
  · rw [way_self hW (by have := h.2; omega)]
  · rfl
theorem wlk_tri {tt : Nat → Nat} (hW : HWf tt) {n s u v : Nat} (hs : plc tt n s) (hu : plc tt n u) : wlk tt n s v ≤ wlk tt n s u + wlk tt n u v := by
  have h0 := sec_le (tt := tt) (n := n)
  have h1 := way_tri hW (b := v / 16) hs.1 hu.1
  have h2 := way_tri hW (a := s % 16) (m := u % 16) (b := v % 16) (by have := hs.2; omega) (by have := hu.2; omega)
  unfold wlk
  split <;> omega
/-- equal hours: who lights what is needed in the next hour, too, may put off the walk -/
theorem cs_same {tt : Nat → Nat} (hW : HWf tt) {n last k s : Nat} (hs : plc tt n s) (hs2 : s < 256) (hn : need tt (last - (k + 1)) = need tt (last - k)) : cs tt n last (k + 1) s = cs tt n last k s := by
  have hall : ∀ k, sdf (need tt (last - k)) (lgt tt n (s / 16) (s % 16)) ≠ 0 → cs tt n last k s = FAR := fun k h => by
    cases k with
    | zero => rw [Nat.sub_zero] at h; rw [cs_0, if_neg h]
    | succ k => rw [cs_s, if_neg h]
  by_cases hl : sdf (need tt (last - k)) (lgt tt n (s / 16) (s % 16)) = 0
  · apply Nat.le_antisymm
    · rw [cs_s, hn, if_pos hl]
      have h1 := minf_le (f := fun u => if u / 16 < tt 1 ∧ u % 16 < sec tt n then wlk tt n s u + cs tt n last k u else FAR) (top := FAR) hs2
      try dsimp only at h1
      rw [if_pos (c := s / 16 < tt 1 ∧ s % 16 < sec tt n) hs, wlk_self hW hs, Nat.zero_add] at h1
      exact h1
    · rw [cs_s (k := k), hn, if_pos hl]
      cases k with
      | zero =>
        rw [Nat.sub_zero] at hl
        rw [cs_0, if_pos hl]
        exact Nat.zero_le _
      | succ k =>
        rcases minf_get (f := fun u => if u / 16 < tt 1 ∧ u % 16 < sec tt n then wlk tt n s u + cs tt n last (k + 1) u else FAR) (top := FAR) 256 with h | ⟨u, hu, h⟩
        · rw [h]; exact cs_le
        · rw [h]
          try dsimp only
          by_cases hp : u / 16 < tt 1 ∧ u % 16 < sec tt n
          · rw [if_pos hp, cs_s (s := u)]
            by_cases hlu : sdf (need tt (last - (k + 1))) (lgt tt n (u / 16) (u % 16)) = 0
            · rw [if_pos hlu]
              rcases minf_get (f := fun v => if v / 16 < tt 1 ∧ v % 16 < sec tt n then wlk tt n u v + cs tt n last k v else FAR) (top := FAR) 256 with h2 | ⟨v, hv, h2⟩
              · rw [h2]
                have := cs_le (tt := tt) (n := n) (last := last) (k := k + 1) (s := s)
                omega
              · rw [h2]
                try dsimp only
                by_cases hpv : v / 16 < tt 1 ∧ v % 16 < sec tt n
                · rw [if_pos hpv, cs_s (s := s), if_pos hl]
                  have h3 := minf_le (f := fun u => if u / 16 < tt 1 ∧ u % 16 < sec tt n then wlk tt n s u + cs tt n last k u else FAR) (top := FAR) hv
                  try dsimp only at h3
                  rw [if_pos hpv] at h3
                  have h4 := wlk_tri hW (v := v) hs hp
                  omega
                · rw [if_neg hpv]
                  have := cs_le (tt := tt) (n := n) (last := last) (k := k + 1) (s := s)
                  omega
            · rw [if_neg hlu]
              have := cs_le (tt := tt) (n := n) (last := last) (k := k + 1) (s := s)
              omega
          · rw [if_neg hp]
            exact cs_le
  · rw [hall k hl, hall (k + 1) (by rw [hn]; exact hl)]
/-- the same, if only the first lamp has still to be carried -/
def hlf (tt : Nat → Nat) (n last k a b : Nat) : Nat := minf (fun u => way tt a u + cs tt n last k (16 * u + b)) FAR (tt 1)
theorem dm16 {a b : Nat} (hb : b < 16) : (16 * a + b) / 16 = a ∧ (16 * a + b) % 16 = b := by omega
theorem lsb_eq {tt : Nat → Nat} (hW : HWf tt) {n last k a b : Nat} (hn : n = 1 ∨ n = 2) (hb : b < sec tt n) : minf (fun u => way tt b u + hlf tt n last k a u) FAR (sec tt n) = minf (fun u => if u / 16 < tt 1 ∧ u % 16 < sec tt n then wlk tt n (16 * a + b) u + cs tt n last k u else FAR) FAR 256 := by
  have hro := hW.ro
  have hse := sec_le (tt := tt) (n := n)
  obtain ⟨q1, q2⟩ := dm16 (a := a) (b := b) (by omega)
  have hw : ∀ u, u % 16 < sec tt n → wlk tt n (16 * a + b) u = way tt a (u / 16) + way tt b (u % 16) := fun u hu => by
    unfold wlk
    rw [q1, q2]
    rcases hn with e | e
    · rw [if_neg (by omega)]
      have h1 : sec tt n ≤ 1 := by
        unfold sec
        rw [if_neg (by omega)]
        omega
      have e1 : b = 0 := by omega
      have e2 : u % 16 = 0 := by omega
      rw [e1, e2, way_self hW (by omega)]
    · rw [if_pos e]
  apply Nat.le_antisymm
  · rcases minf_get (f := fun u => if u / 16 < tt 1 ∧ u % 16 < sec tt n then wlk tt n (16 * a + b) u + cs tt n last k u else FAR) (top := FAR) 256 with h | ⟨u, hu, h⟩
    · rw [h]; exact minf_top _
    · rw [h]
      try dsimp only
      by_cases hp : u / 16 < tt 1 ∧ u % 16 < sec tt n
      · rw [if_pos hp, hw u hp.2]
        have h1 := minf_le (f := fun u => way tt b u + hlf tt n last k a u) (top := FAR) hp.2
        have h2 := minf_le (f := fun v => way tt a v + cs tt n last k (16 * v + u % 16)) (top := FAR) hp.1
        have h3 : hlf tt n last k a (u % 16) ≤ way tt a (u / 16) + cs tt n last k (16 * (u / 16) + u % 16) := h2
        rw [show 16 * (u / 16) + u % 16 = u by omega] at h3
        try dsimp only at h1
        omega
      · rw [if_neg hp]; exact minf_top _
  · rcases minf_get (f := fun u => way tt b u + hlf tt n last k a u) (top := FAR) (sec tt n) with h | ⟨u2, hu2, h⟩
    · rw [h]; exact minf_top _
    · rw [h]
      try dsimp only
      rcases minf_get (f := fun u => way tt a u + cs tt n last k (16 * u + u2)) (top := FAR) (tt 1) with h1 | ⟨u1, hu1, h1⟩
      · have h2 : hlf tt n last k a u2 = FAR := h1
        rw [h2]
        exact Nat.le_trans (minf_top _) (Nat.le_add_left _ _)
      · have h2 : hlf tt n last k a u2 = way tt a u1 + cs tt n last k (16 * u1 + u2) := h1
        rw [h2]
        obtain ⟨r1, r2⟩ := dm16 (a := u1) (b := u2) (by omega)
        have h3 := minf_le (f := fun u => if u / 16 < tt 1 ∧ u % 16 < sec tt n then wlk tt n (16 * a + b) u + cs tt n last k u else FAR) (top := FAR) (show 16 * u1 + u2 < 256 by omega)
        try dsimp only at h3
        rw [r1, r2, if_pos ⟨hu1, hu2⟩, hw _ (by rw [r2]; exact hu2), r1, r2] at h3
        omega
/-- the least of some -/
def IsMin (E : Nat → Prop) (f : Nat → Nat) (v : Nat) : Prop := v ≤ FAR ∧ (∀ s, E s → v ≤ f s) ∧ (v = FAR ∨ ∃ s, E s ∧ v = f s)
theorem IsMin_one {E : Nat → Prop} {f : Nat → Nat} {v w : Nat} (h1 : IsMin E f v) (h2 : IsMin E f w) : v = w := by
  obtain ⟨a1, a2, a3⟩ := h1
  obtain ⟨b1, b2, b3⟩ := h2
  apply Nat.le_antisymm
  · rcases b3 with e | ⟨s, hs, e⟩
    · omega
    · rw [e]; exact a2 s hs
  · rcases a3 with e | ⟨s, hs, e⟩
    · omega
    · rw [e]; exact b2 s hs
theorem csl_min {tt : Nat → Nat} {n last k : Nat} : IsMin (fun s => s < 256 ∧ plc tt n s) (cs tt n last k) (csl tt n last k) := by
  have hd : csl tt n last k = minf (fun s => if s / 16 < tt 1 ∧ s % 16 < sec tt n then cs tt n last k s else FAR) FAR 256 := rfl
  rw [hd]
  refine ⟨minf_top _, fun s hs => ?_, ?_⟩
  · have h := minf_le (f := fun s => if s / 16 < tt 1 ∧ s % 16 < sec tt n then cs tt n last k s else FAR) (top := FAR) hs.1
    try dsimp only at h
    rw [if_pos (c := s / 16 < tt 1 ∧ s % 16 < sec tt n) hs.2] at h
    exact h
  · rcases minf_get (f := fun s => if s / 16 < tt 1 ∧ s % 16 < sec tt n then cs tt n last k s else FAR) (top := FAR) 256 with h | ⟨s, hs, h⟩
    · exact Or.inl h
    · by_cases hp : s / 16 < tt 1 ∧ s % 16 < sec tt n
      · try dsimp only at h
        rw [if_pos hp] at h
        exact Or.inr ⟨s, ⟨hs, hp⟩, h⟩
      · try dsimp only at h
        rw [if_neg hp] at h
        exact Or.inl h
/-- the first place with a sum, walked to from one before (256: from none) -/
def plB (tt : Nat → Nat) (n : Nat) (s : Nat) : Bool := decide (s / 16 < tt 1 ∧ s % 16 < sec tt n)
def fpl (tt : Nat → Nat) (n last k v b : Nat) : Nat := fa_first (fun s => plB tt n s && decide ((if b < 256 then wlk tt n b s else 0) + cs tt n last k s = v)) 256
/-- where they stand j hours behind the first -/
def pls (tt : Nat → Nat) (n last m : Nat) : Nat → Nat
  | 0 => fpl tt n last m (csl tt n last m) 256
  | j + 1 => fpl tt n last (m - (j + 1)) (cs tt n last (m - j) (pls tt n last m j)) (pls tt n last m j)
theorem fpl_ok {tt : Nat → Nat} {n last k v b : Nat} (h : ∃ s, s < 256 ∧ plc tt n s ∧ (if b < 256 then wlk tt n b s else 0) + cs tt n last k s = v) : fpl tt n last k v b < 256 ∧ plc tt n (fpl tt n last k v b) ∧ (if b < 256 then wlk tt n b (fpl tt n last k v b) else 0) + cs tt n last k (fpl tt n last k v b) = v := by
  obtain ⟨s, hs, hp, hv⟩ := h
  have hl : fpl tt n last k v b < 256 := by
    apply Classical.byContradiction
    intro hc
    have h1 := fa_first_no (fun s => plB tt n s && decide ((if b < 256 then wlk tt n b s else 0) + cs tt n last k s = v)) 256 s (by unfold fpl at hc; omega)
    try dsimp only at h1
    have e1 : plB tt n s = true := decide_eq_true hp
    rw [e1, decide_eq_true hv] at h1
    cases h1
  have h2 := fa_first_yes (fun s => plB tt n s && decide ((if b < 256 then wlk tt n b s else 0) + cs tt n last k s = v)) 256 hl
  have h3 : (plB tt n (fpl tt n last k v b) && decide ((if b < 256 then wlk tt n b (fpl tt n last k v b) else 0) + cs tt n last k (fpl tt n last k v b) = v)) = true := h2
  rw [Bool.and_eq_true] at h3
  exact ⟨hl, of_decide_eq_true (p := fpl tt n last k v b / 16 < tt 1 ∧ fpl tt n last k v b % 16 < sec tt n) h3.1, of_decide_eq_true h3.2⟩
theorem pls_ok {tt : Nat → Nat} {n last m : Nat} (hv : csl tt n last m < FAR) : ∀ j, j ≤ m → pls tt n last m j < 256 ∧ plc tt n (pls tt n last m j) ∧ cs tt n last (m - j) (pls tt n last m j) < FAR
  | 0, _ => by
    obtain ⟨a1, a2, a3⟩ := csl_min (tt := tt) (n := n) (last := last) (k := m)
    rcases a3 with e | ⟨s, hs, e⟩
    · omega
    · have h := fpl_ok (tt := tt) (n := n) (last := last) (k := m) (v := csl tt n last m) (b := 256) ⟨s, hs.1, hs.2, by rw [if_neg (Nat.lt_irrefl _), Nat.zero_add]; exact e.symm⟩
      rw [if_neg (Nat.lt_irrefl _), Nat.zero_add] at h
      rw [pls, Nat.sub_zero]
      exact ⟨h.1, h.2.1, by rw [h.2.2]; exact hv⟩
  | j + 1, hj => by
    obtain ⟨i1, i2, i3⟩ := pls_ok hv j (by omega)
    rw [pls]
    generalize pls tt n last m j = p at *
    have e : m - j = (m - (j + 1)) + 1 := by omega
    rw [e] at i3 ⊢
    generalize m - (j + 1) = k at *
    have hx : ∃ s, s < 256 ∧ plc tt n s ∧ (if p < 256 then wlk tt n p s else 0) + cs tt n last k s = cs tt n last (k + 1) p := by
      rw [cs_s] at i3 ⊢
      by_cases hl : sdf (need tt (last - (k + 1))) (lgt tt n (p / 16) (p % 16)) = 0
      · rw [if_pos hl] at i3 ⊢
        rcases minf_get (f := fun u => if u / 16 < tt 1 ∧ u % 16 < sec tt n then wlk tt n p u + cs tt n last k u else FAR) (top := FAR) 256 with h | ⟨u, hu, h⟩
        · rw [h] at i3; exact absurd i3 (Nat.lt_irrefl _)
        · rw [h] at i3 ⊢
          try dsimp only at i3 ⊢
          by_cases hp : u / 16 < tt 1 ∧ u % 16 < sec tt n
          · rw [if_pos hp] at i3 ⊢
            exact ⟨u, hu, hp, by rw [if_pos i1]⟩
          · rw [if_neg hp] at i3; exact absurd i3 (Nat.lt_irrefl _)
      · rw [if_neg hl] at i3; exact absurd i3 (Nat.lt_irrefl _)
    have h := fpl_ok hx
    rw [if_pos i1] at h
    refine ⟨h.1, h.2.1, ?_⟩
    have := h.2.2
    omega
