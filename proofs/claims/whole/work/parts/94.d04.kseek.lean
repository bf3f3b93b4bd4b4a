/-! ===== Kindled: the search ===== -/
/-- one brightness in the rooms of a set -/
def kb (tt : Nat → Nat) (k T r : Nat) : Nat := if T.testBit r then tt (248 + 2 * k) else 0
theorem SS_Lsum {tt : Nat → Nat} (hW : HWf tt) (k T r : Nat) : SS (GG tt (tt (248 + 2 * k))) (tt 1) T r = Lsum tt (kb tt k T) r := by
  rw [Lsum_GG hW]
  unfold SS
  refine fb_sm_cong (fun a _ => ?_)
  unfold kb
  by_cases h : T.testBit a = true
  · rw [if_pos h, if_pos h]
  · rw [if_neg h, if_neg h, GG_0]
theorem SS_le {tt : Nat → Nat} (hW : HWf tt) {k : Nat} (hk : k < tt 3) (T r : Nat) : SS (GG tt (tt (248 + 2 * k))) (tt 1) T r ≤ 59940 := by
  rw [SS_Lsum hW]
  refine Lsum_le2 hW (fun a _ => ?_) r
  have := (hW.kind hk).2.1
  unfold kb
  split <;> omega
theorem UU_le {tt : Nat → Nat} (hW : HWf tt) {k : Nat} (hk : k < tt 3) (r : Nat) {i : Nat} (hi : i ≤ tt 1) : UU (GG tt (tt (248 + 2 * k))) r i ≤ 59940 := by
  have h1 : UU (GG tt (tt (248 + 2 * k))) r (tt 1) = SS (GG tt (tt (248 + 2 * k))) (tt 1) (2 ^ tt 1 - 1) r := fb_sm_cong (fun a ha => by
    rw [Nat.testBit_two_pow_sub_one]
    simp [ha])
  have h2 := SS_le hW hk (2 ^ tt 1 - 1) r
  obtain ⟨d, hd⟩ : ∃ d, tt 1 = i + d := ⟨tt 1 - i, by omega⟩
  have h3 := fb_sm_mono (fun a => GG tt (tt (248 + 2 * k)) a r) i d
  rw [← hd] at h3
  have h4 : UU (GG tt (tt (248 + 2 * k))) r i ≤ UU (GG tt (tt (248 + 2 * k))) r (tt 1) := h3
  omega
theorem wat_lt {tt : Nat → Nat} (hW : HWf tt) {t r : Nat} (h : wat (fun r => Lv tt t r (tt 4)) (fun r => Mv tt t r (tt 4)) r) : r < tt 1 := by
  apply Classical.byContradiction
  intro hr
  have hn : ∀ w, w < tt 4 → ¬ wr tt t r w := fun w hw hh => by
    have h1 := (hW.want hw).1
    have h2 := hh.2
    omega
  rcases h with h | h
  · have h1 : Lv tt t r (tt 4) ≤ 0 := Lv_iff.mpr (fun w hw hh => absurd hh (hn w hw))
    dsimp only at h
    omega
  · have h1 : 99999 ≤ Mv tt t r (tt 4) := Mv_iff.mpr ⟨Nat.le_refl _, fun w hw hh => absurd hh (hn w hw)⟩
    dsimp only at h
    omega
theorem y_spare {b p : Nat} (hb : b < 1000) (hp : p < 1000) : (0 ≤ nI b - 1 - nI p) = (p < b) := by
  apply propext
  have h1 : (1 : Int32).toInt = 1 := rfl
  have h0 : (0 : Int32).toInt = 0 := rfl
  have e1 : (nI b - 1).toInt = (b : Int) - 1 := by
    rw [fb_subI]
    · rw [nI_toInt (by omega), h1]
    · rw [nI_toInt (by omega), h1]; omega
    · rw [nI_toInt (by omega), h1]; omega
  rw [fa_le, fb_subI]
  · rw [e1, nI_toInt (by omega), h0]; omega
  · rw [e1, nI_toInt (by omega)]; omega
  · rw [e1, nI_toInt (by omega)]; omega
def kz (Z : Nat → Int32) (o : Option Nat) (b : Nat) : Nat → Int32 := upA (upA Z 4 (eo o)) 5 (nI b)
theorem kz_up {Z : Nat → Int32} {o : Option Nat} {b : Nat} (x y : Int32) : upA (upA (kz Z o b) 4 x) 5 y = upA (upA Z 4 x) 5 y := by
  unfold kz
  funext k
  unfold upA
  by_cases e1 : k = 5
  · subst e1; simp
  · by_cases e2 : k = 4
    · subst e2; simp
    · simp [e1, e2]
section KSeek
variable {A : Nat → Nat → Int32} {Z : Nat → Int32} {B : Nat → Nat → Int64} {Q : Nat → Int64} {P : Nat → Option Nat} {F : Nat → Nat → Option Nat} {q : Nat} {D : List xC} {c : Nat × Nat} {K : Nat → Nat} {tt lk lh : Nat → Nat} {R : Nat} {Lf Mf W : Nat → Nat} {wc : Nat}
/-- what the search reads -/
def KR (A : Nat → Nat → Int32) (Z : Nat → Int32) (tt : Nat → Nat) (k : Nat) (Lf Mf W : Nat → Nat) (wc : Nat) : Prop :=
  Bal (A 30) (A 31) (A 33) (Z 6) Lf Mf W wc ∧ (∀ j, j < wc → W j < tt 1) ∧ (∀ a r, a < 16 → r < 16 → A 34 (a * 16 + r) = nI (GG tt (tt (248 + 2 * k)) a r)) ∧ (∀ j r, j ≤ tt 1 → r < tt 1 → A 35 (j * 16 + r) = nI (UU (GG tt (tt (248 + 2 * k))) r j)) ∧ (∀ j, j ≤ tt 1 → A 36 j = nI (wid (ltt tt) j))
/-- whoever lacks, or can't bear, is watched -/
theorem KR_w {k : Nat} (hR : KR A Z tt k Lf Mf W wc) {S : Nat → Nat} (hs : ∀ r, S r ≤ 59940) {r : Nat} (hr : r < 16) (h : S r < Lf r ∨ Mf r < S r) : ∃ j, j < wc ∧ W j = r := by
  have h1 := hs r
  exact hR.1.2.2.2.2.2.1 r hr (by unfold wat; omega)
theorem kwid_le (hW : HWf tt) : ∀ m, wid (ltt tt) m ≤ 16
  | 0 => Nat.zero_le _
  | m + 1 => by
    rw [wid]
    exact Nat.max_le.mpr ⟨kwid_le hW m, pc_le_n (by decide) (ltt_lt16 hW m)⟩
theorem k_seek (H : Hs K D q tt) (hW : HWf tt) {q' k : Nat} (hk : k < tt 3) (hR : KR A Z tt k Lf Mf W wc) : ∀ (i N s b : Nat) (o : Option Nat) (g : Nat → Int32), i ≤ tt 1 → i < N → 2 ^ i * s < 2 ^ tt 1 → b ≤ 17 → (∀ j, j < wc → g (W j) = nI (SS (GG tt (tt (248 + 2 * k))) (tt 1) (2 ^ i * s) (W j))) → (∀ r, r < 16 → SS (GG tt (tt (248 + 2 * k))) (tt 1) (2 ^ i * s) r ≤ Mf r) → ∃ g' b' o', f_X4_seek N (HH (upA A 32 g) (kz Z o b) B Q P F q' D c) 28 q (nI i) (nI (2 ^ i * s)) (nI (lkF Lf (SS (GG tt (tt (248 + 2 * k))) (tt 1) (2 ^ i * s)) W wc)) = some (HH (upA A 32 g') (kz Z o' b') B Q P F q' D c) ∧ (∀ j, j < wc → g' (W j) = nI (SS (GG tt (tt (248 + 2 * k))) (tt 1) (2 ^ i * s) (W j))) ∧ BB (VV (GG tt (tt (248 + 2 * k))) Lf Mf (tt 1)) (Ex i s) b o b' o' ∧ b' ≤ 17 := by
  have hro := hW.ro
  have hpw := pw16 hro
  have hSS := SS_le hW hk
  have hUU := fun r i hi => UU_le hW hk r (i := i) hi
  have hB0 := hR.1
  have hlt := lkF_lt (S := fun _ => 0) hB0
  intro i
  induction i with
  | zero =>
    intro N s b o g hi hN hS hb hg hm
    obtain ⟨N, rfl⟩ : ∃ m, N = m + 1 := ⟨N - 1, by omega⟩
    have hB := hR.1
    have hl := lkF_lt (S := SS (GG tt (tt (248 + 2 * k))) (tt 1) (2 ^ 0 * s)) hB
    have hlb := lkF_bit (S := SS (GG tt (tt (248 + 2 * k))) (tt 1) (2 ^ 0 * s)) hB
    have hp : pc (2 ^ 0 * s) ≤ 16 := pc_le_n (by decide) (show 2 ^ 0 * s < 2 ^ 16 by omega)
    generalize hlk : lkF Lf (SS (GG tt (tt (248 + 2 * k))) (tt 1) (2 ^ 0 * s)) W wc = lack at *
    by_cases hsp : pc (2 ^ 0 * s) < b
    · by_cases hl0 : lack = 0
      · refine ⟨g, pc (2 ^ 0 * s), some (2 ^ 0 * s), ?_, hg, ks_found (fun r hr => ⟨?_, hm r hr⟩) hsp, by omega⟩
        · rw [f_X4_seek, gf_28_7, Option.bind_some, bitCount_spec _ (by omega), Option.bind_some, show kz Z o b 5 = nI b from y_us, if_pos (by rw [y_spare (by omega) (by omega)]; exact hsp), if_pos (by rw [hl0]; rfl), pf_28_6, Option.bind_some, bitCount_spec _ (by omega), Option.bind_some, pf_28_7, Option.bind_some, kz_up]
          rfl
        · apply Classical.byContradiction
          intro h
          have := (hlb r).mpr ⟨hr, by omega⟩
          rw [hl0, Nat.zero_testBit] at this
          cases this
      · refine ⟨g, b, o, ?_, hg, ks_zero ?_, hb⟩
        · rw [f_X4_seek, gf_28_7, Option.bind_some, bitCount_spec _ (by omega), Option.bind_some, show kz Z o b 5 = nI b from y_us, if_pos (by rw [y_spare (by omega) (by omega)]; exact hsp), if_neg (by rw [← nI_0, y_eq (by omega) (by omega)]; exact hl0), if_pos (by decide)]
        · apply Classical.byContradiction
          intro h
          refine hl0 (n_zero (fun r => ?_))
          cases hbit : lack.testBit r
          · rfl
          · exact absurd ⟨r, ((hlb r).mp hbit).1, ((hlb r).mp hbit).2⟩ h
    · refine ⟨g, b, o, ?_, hg, ks_few (by omega), hb⟩
      rw [f_X4_seek, gf_28_7, Option.bind_some, bitCount_spec _ (by omega), Option.bind_some, show kz Z o b 5 = nI b from y_us, if_neg (by rw [y_spare (by omega) (by omega)]; exact hsp)]
  | succ i ih =>
    intro N s b o g hi hN hS hb hg hm
    obtain ⟨N, rfl⟩ : ∃ m, N = m + 1 := ⟨N - 1, by omega⟩
    obtain ⟨hB, hWl, h34, h35, h36⟩ := hR
    have hl := lkF_lt (S := SS (GG tt (tt (248 + 2 * k))) (tt 1) (2 ^ (i + 1) * s)) hB
    have hlb := lkF_bit (S := SS (GG tt (tt (248 + 2 * k))) (tt 1) (2 ^ (i + 1) * s)) hB
    have hp : pc (2 ^ (i + 1) * s) ≤ 16 := pc_le_n (by decide) (show 2 ^ (i + 1) * s < 2 ^ 16 by omega)
    have hwl := kwid_le hW (i + 1)
    have hlit := ltt_lt16 hW i
    generalize hlk : lkF Lf (SS (GG tt (tt (248 + 2 * k))) (tt 1) (2 ^ (i + 1) * s)) W wc = lack at *
    have hpl : pc lack ≤ 16 := pc_le_n (by decide) hl
    by_cases hsp : pc (2 ^ (i + 1) * s) < b
    · by_cases hl0 : lack = 0
      · refine ⟨g, pc (2 ^ (i + 1) * s), some (2 ^ (i + 1) * s), ?_, hg, ks_found (fun r hr => ⟨?_, hm r hr⟩) hsp, by omega⟩
        · rw [f_X4_seek, gf_28_7, Option.bind_some, bitCount_spec _ (by omega), Option.bind_some, show kz Z o b 5 = nI b from y_us, if_pos (by rw [y_spare (by omega) (by omega)]; exact hsp), if_pos (by rw [hl0]; rfl), pf_28_6, Option.bind_some, bitCount_spec _ (by omega), Option.bind_some, pf_28_7, Option.bind_some, kz_up]
          rfl
        · apply Classical.byContradiction
          intro h
          have := (hlb r).mpr ⟨hr, by omega⟩
          rw [hl0, Nat.zero_testBit] at this
          cases this
      · have esp : nI b - 1 - nI (pc (2 ^ (i + 1) * s)) = nI (b - 1 - pc (2 ^ (i + 1) * s)) := by
          rw [show (1 : Int32) = nI 1 from rfl, y_sub (by omega), y_sub (by omega)]
        have hmul : (b - 1 - pc (2 ^ (i + 1) * s)) * wid (ltt tt) (i + 1) ≤ 17 * 16 := Nat.mul_le_mul (by omega) hwl
        by_cases hwd : pc lack ≤ (b - 1 - pc (2 ^ (i + 1) * s)) * wid (ltt tt) (i + 1)
        · -- both ways
          have hsv : lack &&& ltt tt i < 65536 := n_and_ltl (k := 16) hl
          have e35 : ∀ (g : Nat → Int32) j, j < wc → ldI (HH (upA A 32 g) (kz Z o b) B Q P F q' D c) .int 35 (nI (i * 16 + W j)) = some (nI (UU (GG tt (tt (248 + 2 * k))) (W j) i)) := fun g j hj => by
            have := hWl j hj
            rw [ld_35 (by omega), y_un (by decide), h35 i (W j) (by omega) this]
          have hBg : Bal (upA A 32 g 30) (upA A 32 g 31) (upA A 32 g 33) (kz Z o b 6) Lf Mf W wc := hB
          -- the first branch
          have hfirst : ∃ g1 b1 o1, (f_X0_enoughWith (HH (upA A 32 g) (kz Z o b) B Q P F q' D c) 29 35 (nI (i * 16)) (nI (lack &&& ltt tt i))).bind (fun r15 => if r15 = 0 then f_X4_seek_108 (f_X4_seek N) (HH (upA A 32 g) (kz Z o b) B Q P F q' D c) 28 q (nI (2 ^ (i + 1) * s)) (nI i) (nI (lack &&& ltt tt i)) else (f_X4_seek N (HH (upA A 32 g) (kz Z o b) B Q P F q' D c) 28 q (nI i) (nI (2 ^ (i + 1) * s)) (nI lack)).bind fun r17 => f_X4_seek_108 (f_X4_seek N) r17 28 q (nI (2 ^ (i + 1) * s)) (nI i) (nI (lack &&& ltt tt i))) = f_X4_seek_108 (f_X4_seek N) (HH (upA A 32 g1) (kz Z o1 b1) B Q P F q' D c) 28 q (nI (2 ^ (i + 1) * s)) (nI i) (nI (lack &&& ltt tt i)) ∧ (∀ j, j < wc → g1 (W j) = nI (SS (GG tt (tt (248 + 2 * k))) (tt 1) (2 ^ (i + 1) * s) (W j))) ∧ BB (VV (GG tt (tt (248 + 2 * k))) Lf Mf (tt 1)) (Ex i (2 * s)) b o b1 o1 ∧ b1 ≤ 17 := by
            rcases b0_enough (A := upA A 32 g) (Z := kz Z o b) (B := B) (Q := Q) (P := P) (F := F) (q := q') (D := D) (c := c) (S := SS (GG tt (tt (248 + 2 * k))) (tt 1) (2 ^ (i + 1) * s)) (X := fun r => UU (GG tt (tt (248 + 2 * k))) r i) hBg (fun j hj => by rw [y_us]; exact hg j hj) (fun r => by have := hSS (2 ^ (i + 1) * s) r; omega) (e35 g) (fun r => by have := hUU r i (by omega); omega) hsv with ⟨e1, h1⟩ | ⟨e1, j, hj, h1, h2⟩
            · rw [e1, Option.bind_some, if_neg (by decide)]
              obtain ⟨g1, b1, o1, e2, h3, h4, h5⟩ := ih N (2 * s) b o g (by omega) (by omega) (by rw [← Ex_lo]; exact hS) hb (by rw [← Ex_lo]; exact hg) (by rw [← Ex_lo]; exact hm)
              rw [← Ex_lo] at h3 e2
              rw [hlk] at e2
              rw [e2, Option.bind_some]
              exact ⟨g1, b1, o1, rfl, h3, h4, h5⟩
            · rw [e1, Option.bind_some, if_pos (by decide)]
              refine ⟨g, b, o, rfl, hg, BB_no (ks_more (by omega) ⟨W j, (hB.2.2.2.2.1 j hj).2.1, ?_⟩), hb⟩
              rw [← Ex_lo]
              exact h2
          obtain ⟨g1, b1, o1, e1, k1, k2, k3⟩ := hfirst
          have estart : f_X4_seek (N + 1) (HH (upA A 32 g) (kz Z o b) B Q P F q' D c) 28 q (nI (i + 1)) (nI (2 ^ (i + 1) * s)) (nI lack) = f_X4_seek_108 (f_X4_seek N) (HH (upA A 32 g1) (kz Z o1 b1) B Q P F q' D c) 28 q (nI (2 ^ (i + 1) * s)) (nI i) (nI (lack &&& ltt tt i)) := by
            rw [← e1, f_X4_seek, gf_28_7, Option.bind_some, bitCount_spec _ (by omega), Option.bind_some, show kz Z o b 5 = nI b from y_us, if_pos (by rw [y_spare (by omega) (by omega)]; exact hsp), if_neg (by rw [← nI_0, y_eq (by omega) (by omega)]; exact hl0), if_neg (by rw [← nI_0, y_le (by omega) (by omega)]; omega), bitCount_spec _ (by omega), Option.bind_some, gf_28_3, Option.bind_some, ld_36 (by omega), Option.bind_some, y_un (by decide), h36 (i + 1) hi, esp, pk_mul, if_pos (by rw [y_le (by omega) (by omega)]; exact hwd), hs_14 H, Option.bind_some, show (1 : Int32) = nI 1 from rfl, y_sub (show 1 ≤ i + 1 by omega), Nat.add_sub_cancel, hs_li H (by omega), Option.bind_some, gf_28_0, Option.bind_some, gf_28_2, Option.bind_some, gO_29, Option.bind_some, show (16 : Int32) = nI 16 from rfl, pk_mul, fa_and]
          by_cases hz : lack &&& ltt tt i = 0
          · refine ⟨g1, b1, o1, ?_, k1, BB_dom k2 (ks_dom (lit := ltt tt) (fun a r h => GG_lit h) (by omega) (by omega) (fun r hr hk2 => ?_)) (fun T => Ex_split), k3⟩
            · rw [estart]
              unfold f_X4_seek_108
              rw [if_pos (by rw [hz]; rfl)]
            · exact z_and hz ((hlb r).mpr ⟨hr, hk2⟩)
          · -- with a lamp there
            have ehi : 2 ^ (i + 1) * s ||| 2 ^ i = 2 ^ i * (2 * s + 1) := Ex_hi
            have hS2 : 2 ^ i * (2 * s + 1) < 2 ^ tt 1 := by rw [← ehi]; exact n_or_lt hS (n_pw (by omega))
            have d1 : (2 ^ (i + 1) * s) &&& 2 ^ i = 0 := and_z (fun x hx => by
              rw [Nat.testBit_two_pow_mul] at hx
              rw [n_two]
              by_cases e : i = x
              · subst e; simp at hx; omega
              · simp [e])
            have hsum : ∀ r, SS (GG tt (tt (248 + 2 * k))) (tt 1) (2 ^ i * (2 * s + 1)) r = SS (GG tt (tt (248 + 2 * k))) (tt 1) (2 ^ (i + 1) * s) r + GG tt (tt (248 + 2 * k)) i r := fun r => by rw [← ehi, SS_or d1, SS_two (by omega)]
            have e34 : ∀ (o : Option Nat) (b : Nat) (g f : Nat → Int32) j, j < wc → ldI (HH (upA (upA A 32 g) 32 f) (kz Z o b) B Q P F q' D c) .int 34 (nI (i * 16 + W j)) = some (nI (GG tt (tt (248 + 2 * k)) i (W j))) := fun o b g f j hj => by
              have := hWl j hj
              rw [ld_34 (by omega), y_un (by decide), y_un (by decide), h34 i (W j) (by omega) (by omega)]
            obtain ⟨g2, e2, k4⟩ := b0_add (A := upA A 32 g1) (Z := kz Z o1 b1) (B := B) (Q := Q) (P := P) (F := F) (q := q') (D := D) (c := c) (S := SS (GG tt (tt (248 + 2 * k))) (tt 1) (2 ^ (i + 1) * s)) (X := GG tt (tt (248 + 2 * k)) i) (Lf := Lf) (Mf := Mf) (W := W) (wc := wc) hB (fun j hj => by rw [y_us]; exact k1 j hj) (e34 o1 b1 g1)
            rw [y_uu] at e2
            have k5 : ∀ j, j < wc → g2 (W j) = nI (SS (GG tt (tt (248 + 2 * k))) (tt 1) (2 ^ i * (2 * s + 1)) (W j)) := fun j hj => by rw [hsum]; exact k4 j hj
            -- and out again
            have hback : ∀ (g3 : Nat → Int32) (b3 : Nat) (o3 : Option Nat), (∀ j, j < wc → g3 (W j) = nI (SS (GG tt (tt (248 + 2 * k))) (tt 1) (2 ^ i * (2 * s + 1)) (W j))) → ∃ g4, f_X4_seek_160 (f_X4_seek N) (HH (upA A 32 g3) (kz Z o3 b3) B Q P F q' D c) 28 (nI i) = some (HH (upA A 32 g4) (kz Z o3 b3) B Q P F q' D c) ∧ ∀ j, j < wc → g4 (W j) = nI (SS (GG tt (tt (248 + 2 * k))) (tt 1) (2 ^ (i + 1) * s) (W j)) := by
              intro g3 b3 o3 hg3
              obtain ⟨g4, e4, k6⟩ := b0_sub (A := upA A 32 g3) (Z := kz Z o3 b3) (B := B) (Q := Q) (P := P) (F := F) (q := q') (D := D) (c := c) (S := SS (GG tt (tt (248 + 2 * k))) (tt 1) (2 ^ i * (2 * s + 1))) (X := GG tt (tt (248 + 2 * k)) i) (Lf := Lf) (Mf := Mf) (W := W) (wc := wc) hB (fun j hj => by rw [y_us]; exact hg3 j hj) (fun r => by have := hSS (2 ^ i * (2 * s + 1)) r; omega) (e34 o3 b3 g3) (fun r => by rw [hsum]; omega)
              rw [y_uu] at e4
              refine ⟨g4, ?_, fun j hj => ?_⟩
              · unfold f_X4_seek_160
                rw [gf_28_0, Option.bind_some, gf_28_1, Option.bind_some, gO_29, Option.bind_some, show (16 : Int32) = nI 16 from rfl, pk_mul, show (-1 : Int32) = nM from rfl, e4, Option.bind_some]
              · rw [k6 j hj, hsum, Nat.add_sub_cancel]
            rcases b0_bear (A := upA A 32 g2) (Z := kz Z o1 b1) (B := B) (Q := Q) (P := P) (F := F) (q := q') (D := D) (c := c) (S := SS (GG tt (tt (248 + 2 * k))) (tt 1) (2 ^ i * (2 * s + 1))) (Lf := Lf) (Mf := Mf) (W := W) (wc := wc) hB (fun j hj => by rw [y_us]; exact k5 j hj) (fun r => by have := hSS (2 ^ i * (2 * s + 1)) r; omega) with ⟨e5, h5⟩ | ⟨e5, j, hj, h5⟩
            · have hm2 : ∀ r, r < 16 → SS (GG tt (tt (248 + 2 * k))) (tt 1) (2 ^ i * (2 * s + 1)) r ≤ Mf r := fun r hr => by
                apply Classical.byContradiction
                intro hc
                obtain ⟨j, hj, e⟩ := KR_w (A := A) (Z := Z) (tt := tt) (k := k) ⟨hB, hWl, h34, h35, h36⟩ (S := SS (GG tt (tt (248 + 2 * k))) (tt 1) (2 ^ i * (2 * s + 1))) (hSS _) hr (Or.inr (by omega))
                have := h5 j hj
                rw [e] at this
                omega
              obtain ⟨g3, b3, o3, e6, k6, k7, k8⟩ := ih N (2 * s + 1) b1 o1 g2 (by omega) (by omega) hS2 k3 k5 hm2
              obtain ⟨g4, e7, k9⟩ := hback g3 b3 o3 k6
              have e8 := b0_lack (A := upA A 32 g2) (Z := kz Z o1 b1) (B := B) (Q := Q) (P := P) (F := F) (q := q') (D := D) (c := c) (S := SS (GG tt (tt (248 + 2 * k))) (tt 1) (2 ^ i * (2 * s + 1))) (Lf := Lf) (Mf := Mf) (W := W) (wc := wc) hB (fun j hj => by rw [y_us]; exact k5 j hj) (fun r => by have := hSS (2 ^ i * (2 * s + 1)) r; omega)
              refine ⟨g4, b3, o3, ?_, k9, BB_seq k2 k7 (fun T => Ex_split) (fun T1 T2 h1 h2 => Ex_ord h1 h2), k8⟩
              rw [estart]
              unfold f_X4_seek_108
              rw [if_neg (by rw [← nI_0, y_eq (by omega) (by omega)]; exact hz), gf_28_0, Option.bind_some, gf_28_1, Option.bind_some, gO_29, Option.bind_some, show (16 : Int32) = nI 16 from rfl, pk_mul, show (1 : Int32) = nI 1 from rfl, e2, Option.bind_some, gf_28_0, Option.bind_some, gO_29, Option.bind_some, e5, Option.bind_some, if_neg (by decide), Option.bind_some, gO_29, Option.bind_some, e8, Option.bind_some, show nI 1 <<< (nI i &&& 31) = nI (2 ^ i) from n_shl (by omega), fa_or, ehi, e6, Option.bind_some]
              exact e7
            · obtain ⟨g4, e7, k9⟩ := hback g2 b1 o1 k5
              refine ⟨g4, b1, o1, ?_, k9, BB_seq k2 (BB_no (ks_bear ⟨W j, (hB.2.2.2.2.1 j hj).2.1, h5⟩)) (fun T => Ex_split) (fun T1 T2 h1 h2 => Ex_ord h1 h2), k3⟩
              rw [estart]
              unfold f_X4_seek_108
              rw [if_neg (by rw [← nI_0, y_eq (by omega) (by omega)]; exact hz), gf_28_0, Option.bind_some, gf_28_1, Option.bind_some, gO_29, Option.bind_some, show (16 : Int32) = nI 16 from rfl, pk_mul, show (1 : Int32) = nI 1 from rfl, e2, Option.bind_some, gf_28_0, Option.bind_some, gO_29, Option.bind_some, e5, Option.bind_some, if_pos (by decide)]
              exact e7
        · refine ⟨g, b, o, ?_, hg, ks_wide (lit := ltt tt) (fun a r h => GG_lit h) (lack := lack) (fun r hr => (hlb r).mp hr) hl (by omega) (by omega), hb⟩
          rw [f_X4_seek, gf_28_7, Option.bind_some, bitCount_spec _ (by omega), Option.bind_some, show kz Z o b 5 = nI b from y_us, if_pos (by rw [y_spare (by omega) (by omega)]; exact hsp), if_neg (by rw [← nI_0, y_eq (by omega) (by omega)]; exact hl0), if_neg (by rw [← nI_0, y_le (by omega) (by omega)]; omega), bitCount_spec _ (by omega), Option.bind_some, gf_28_3, Option.bind_some, ld_36 (by omega), Option.bind_some, y_un (by decide), h36 (i + 1) hi, esp, pk_mul, if_neg (by rw [y_le (by omega) (by omega)]; exact hwd)]
    · refine ⟨g, b, o, ?_, hg, ks_few (by omega), hb⟩
      rw [f_X4_seek, gf_28_7, Option.bind_some, bitCount_spec _ (by omega), Option.bind_some, show kz Z o b 5 = nI b from y_us, if_neg (by rw [y_spare (by omega) (by omega)]; exact hsp)]
end KSeek
