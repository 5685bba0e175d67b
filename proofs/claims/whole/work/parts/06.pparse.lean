section SNF
/-! the pure parse: i (read), c (items), d and st (open stops), K V S (kinds, values, stops), oa ca, sg, dp, pa -/
abbrev sn_G : Type := Nat × Nat × Nat × (Nat → Nat) × (Nat → Nat) × (Nat → Int32) × (Nat → Nat) × (Nat → Nat) × (Nat → Nat) × (Nat → Nat) × (Nat → Nat) × (Nat → Nat)
def sn_gA (k : Nat) (v : Int32) (s w : Nat) : sn_G → sn_G
  | (i, c, d, st, K, V, S, oa, ca, sg, dp, pa) => (i + w, c + 1, d, st, sn_u K c k, upd V c v, sn_u S c s, oa, ca, sn_u sg (c + 1) (sg c + 1), sn_u dp c d, sn_u pa c (sn_top d st))
def sn_gF (w : Nat) : sn_G → sn_G
  | (i, c, d, st, K, V, S, oa, ca, sg, dp, pa) => (i + w, c + 1, d, st, sn_u K c 3, upd V c 0, sn_u S c 0, sn_u oa 0 c, sn_u ca 0 c, sn_u sg (c + 1) (sg c + 1), sn_u dp c d, sn_u pa c (sn_top d st))
def sn_gO (s w : Nat) : sn_G → sn_G
  | (i, c, d, st, K, V, S, oa, ca, sg, dp, pa) => (i + w, c + 1, d + 1, sn_u st d s, sn_u K c 1, upd V c (nI s), sn_u S c s, sn_u oa s c, ca, sn_u sg (c + 1) (sg c + 1), sn_u dp c d, sn_u pa c (sn_top d st))
def sn_gC (w : Nat) : sn_G → sn_G
  | (i, c, d, st, K, V, S, oa, ca, sg, dp, pa) => (i + w, c + 1, d - 1, st, sn_u K c 2, upd V c (nI (st (d - 1))), sn_u S c (st (d - 1)), oa, sn_u ca (st (d - 1)) c, sn_u sg (c + 1) (sg c + 0), dp, pa)
def sn_gI (g : sn_G) : Nat := g.1
def sn_gd (g : sn_G) : Nat := g.2.2.1
def sn_go (g : sn_G) : Nat → Nat := g.2.2.2.2.2.2.2.1
def sn_gFin (w : Nat) (g : sn_G) : Option sn_G := if 0 < sn_gd g ∨ sn_go g 0 ≠ 1000 then none else some (sn_gF w g)
def sn_gMir (s k w : Nat) (g : sn_G) : Option sn_G := if 0 < sn_gd g ∨ s = 0 ∨ sn_go g s = 1000 then none else some (sn_gA k (nI s) s w g)
def sn_gRef (s w : Nat) (g : sn_G) : Option sn_G := if s = 0 then sn_gFin w g else if sn_go g s = 1000 then some (sn_gC 0 (sn_gO s w g)) else sn_gMir s 4 w g
def sn_gOpn (s : Nat) (g : sn_G) : Option sn_G := if s = 0 ∨ sn_go g s ≠ 1000 ∨ 4 ≤ sn_gd g then none else some (sn_gO s 4 g)
def sn_gCls (g : sn_G) : Option sn_G := if sn_gd g = 0 then none else some (sn_gC 1 g)
def sn_chr (b : Nat → Int32) (n i : Nat) : Int32 := if i < n then b i else -1
def sn_tk (m : Int32) : Nat := if m = 117 then 5 else if m = 108 then 6 else if m = 99 then 7 else 0
def sn_dg (x : Int32) : Nat := (x - 48).toNatClampNeg
def sn_gTr (b : Nat → Int32) (n s : Nat) (g : sn_G) : Option sn_G :=
  if sn_tk (sn_chr b n (sn_gI g + 4)) = 0 ∨ sn_chr b n (sn_gI g + 5) ≠ 125 then none else sn_gMir s (sn_tk (sn_chr b n (sn_gI g + 4))) 6 g
def sn_gBr (b : Nat → Int32) (n s : Nat) (g : sn_G) : Option sn_G :=
  if sn_chr b n (sn_gI g + 3) = 125 then sn_gRef s 4 g else if sn_chr b n (sn_gI g + 3) = 58 then sn_gOpn s g else if sn_chr b n (sn_gI g + 3) = 47 then sn_gTr b n s g else none
def sn_gStp (b : Nat → Int32) (n : Nat) (g : sn_G) : Option sn_G :=
  if 48 ≤ sn_chr b n (sn_gI g + 1) ∧ sn_chr b n (sn_gI g + 1) ≤ 57 then sn_gRef (sn_dg (sn_chr b n (sn_gI g + 1))) 2 g
  else if sn_chr b n (sn_gI g + 1) = 123 ∧ 48 ≤ sn_chr b n (sn_gI g + 2) ∧ sn_chr b n (sn_gI g + 2) ≤ 57 then sn_gBr b n (sn_dg (sn_chr b n (sn_gI g + 2))) g else none
def sn_gEsc (b : Nat → Int32) (n : Nat) (g : sn_G) : Option sn_G :=
  if sn_chr b n (sn_gI g + 1) = 36 ∨ sn_chr b n (sn_gI g + 1) = 92 ∨ sn_chr b n (sn_gI g + 1) = 125 then some (sn_gA 0 (sn_chr b n (sn_gI g + 1)) 0 2 g) else none
def sn_gStep (b : Nat → Int32) (n : Nat) (g : sn_G) : Option sn_G :=
  if b (sn_gI g) = 92 then sn_gEsc b n g else if b (sn_gI g) = 36 then sn_gStp b n g else if b (sn_gI g) = 125 then sn_gCls g else some (sn_gA 0 (b (sn_gI g)) 0 1 g)
def sn_run (b : Nat → Int32) (n : Nat) : Nat → sn_G → Option sn_G
  | 0, g => some g
  | k + 1, g => if sn_gI g < n then (sn_gStep b n g).bind (sn_run b n k) else some g
def sn_g0 : sn_G := (0, 0, 0, fun _ => 0, fun _ => 0, fun _ => 0, fun _ => 0, fun _ => 1000, fun _ => 1000, fun _ => 0, fun _ => 0, fun _ => 0)
def sn_end (g : sn_G) : Option sn_G := if 0 < sn_gd g then none else if sn_go g 0 = 1000 then some (sn_gF 0 g) else some g
def sn_pp (b : Nat → Int32) (n : Nat) : Option sn_G := (sn_run b n 64 sn_g0).bind sn_end
/-- the body up to n gives the same parse -/
theorem sn_chrC {b b' : Nat → Int32} {n : Nat} (h : ∀ k, k < n → b k = b' k) (i : Nat) : sn_chr b n i = sn_chr b' n i := by
  unfold sn_chr
  by_cases z : i < n
  · rw [if_pos z, if_pos z, h i z]
  · rw [if_neg z, if_neg z]
theorem sn_stepC {b b' : Nat → Int32} {n : Nat} (h : ∀ k, k < n → b k = b' k) {g : sn_G} (hg : sn_gI g < n) : sn_gStep b n g = sn_gStep b' n g := by
  unfold sn_gStep sn_gEsc sn_gStp sn_gBr sn_gTr
  rw [h _ hg, sn_chrC h (sn_gI g + 1), sn_chrC h (sn_gI g + 2), sn_chrC h (sn_gI g + 3), sn_chrC h (sn_gI g + 4), sn_chrC h (sn_gI g + 5)]
theorem sn_runC {b b' : Nat → Int32} {n : Nat} (h : ∀ k, k < n → b k = b' k) : ∀ (k : Nat) (g : sn_G), sn_run b n k g = sn_run b' n k g := by
  intro k
  induction k with
  | zero => exact fun g => rfl
  | succ k ih =>
    intro g
    rw [sn_run, sn_run]
    by_cases z : sn_gI g < n
    · rw [if_pos z, if_pos z, sn_stepC h z, show sn_run b n k = sn_run b' n k from funext ih]
    · rw [if_neg z, if_neg z]
theorem sn_ppC {b b' : Nat → Int32} {n : Nat} (h : ∀ k, k < n → b k = b' k) : sn_pp b n = sn_pp b' n := by
  unfold sn_pp; rw [sn_runC h]
/-- what each step keeps -/
def sn_GI (n : Nat) (g : sn_G) : Prop :=
  sn_PI g.2.1 g.2.2.1 g.2.2.2.1 g.2.2.2.2.1 g.2.2.2.2.2.1 g.2.2.2.2.2.2.1 g.2.2.2.2.2.2.2.1 g.2.2.2.2.2.2.2.2.1 g.2.2.2.2.2.2.2.2.2.1 g.2.2.2.2.2.2.2.2.2.2.1 g.2.2.2.2.2.2.2.2.2.2.2 ∧
  g.2.1 ≤ g.1 ∧ g.1 ≤ n ∧ n ≤ 64 ∧ g.2.2.1 ≤ 4
theorem sn_GI0 {n : Nat} (hn : n ≤ 64) : sn_GI n sn_g0 := ⟨sn_PI0, Nat.le_refl _, Nat.zero_le _, hn, by show 0 ≤ 4; omega⟩
theorem sn_GIA {n k s w : Nat} {v : Int32} {g : sn_G} (h : sn_GI n g) (hw : 1 ≤ w) (hn : sn_gI g + w ≤ n) (hk : (k = 0 ∧ s = 0) ∨ (4 ≤ k ∧ k ≤ 7 ∧ sn_gd g = 0 ∧ 1 ≤ s ∧ s ≤ 9 ∧ sn_go g s < 1000 ∧ v = nI s)) : sn_GI n (sn_gA k v s w g) := by
  obtain ⟨i, c, d, st, K, V, S, oa, ca, sg, dp, pa⟩ := g
  obtain ⟨P, h1, h2, h3, h4⟩ := h
  dsimp only at P h1 h2 h4
  have hn' : i + w ≤ n := hn
  refine ⟨sn_Pl P (by omega) h4 ?_, ?_, hn, h3, h4⟩
  · rcases hk with a | ⟨a1, a2, a3, a4, a5, a6, a7⟩
    · exact Or.inl a
    · have q := sn_oac P.2.2.2.1 s
      have a6' : oa s < 1000 := a6
      have a8 : oa s < c := by omega
      exact Or.inr ⟨a1, a2, a3, a4, a5, a8, a7⟩
  · show c + 1 ≤ i + w; omega
theorem sn_GIF {n w : Nat} {g : sn_G} (h : sn_GI n g) (hw : 1 ≤ w) (hn : sn_gI g + w ≤ n) (hd : sn_gd g = 0) (ho : sn_go g 0 = 1000) : sn_GI n (sn_gF w g) := by
  obtain ⟨i, c, d, st, K, V, S, oa, ca, sg, dp, pa⟩ := g
  obtain ⟨P, h1, h2, h3, h4⟩ := h
  dsimp only at P h1 h2 h4
  have hn' : i + w ≤ n := hn
  have hd' : d = 0 := hd
  subst hd'
  refine ⟨sn_Pf P (by omega) ho rfl, ?_, hn, h3, h4⟩
  show c + 1 ≤ i + w; omega
theorem sn_GIO {n s w : Nat} {g : sn_G} (h : sn_GI n g) (hw : 1 ≤ w) (hn : sn_gI g + w ≤ n) (hd : sn_gd g < 4) (h1 : 1 ≤ s) (h9 : s ≤ 9) (ho : sn_go g s = 1000) : sn_GI n (sn_gO s w g) := by
  obtain ⟨i, c, d, st, K, V, S, oa, ca, sg, dp, pa⟩ := g
  obtain ⟨P, h1', h2, h3, h4⟩ := h
  dsimp only at P h1' h2 h4
  have hn' : i + w ≤ n := hn
  refine ⟨sn_Po P (by omega) h4 h1 h9 ho, ?_, hn, h3, ?_⟩
  · show c + 1 ≤ i + w; omega
  · have hd' : d < 4 := hd
    show d + 1 ≤ 4; omega
theorem sn_GIC {n : Nat} {g : sn_G} (h : sn_GI n g) (hn : sn_gI g < n) (hd : 0 < sn_gd g) : sn_GI n (sn_gC 1 g) := by
  obtain ⟨i, c, d, st, K, V, S, oa, ca, sg, dp, pa⟩ := g
  obtain ⟨P, h1', h2, h3, h4⟩ := h
  dsimp only at P h1' h2 h4
  have hn' : i < n := hn
  have hd' : 0 < d := hd
  obtain ⟨e, rfl⟩ : ∃ e, d = e + 1 := ⟨d - 1, by omega⟩
  refine ⟨sn_Pc P (by omega), ?_, hn, h3, ?_⟩
  · show c + 1 ≤ i + 1; omega
  · show e + 1 - 1 ≤ 4; omega
theorem sn_GIR {n s w : Nat} {g : sn_G} (h : sn_GI n g) (hw : 2 ≤ w) (hn : sn_gI g + w ≤ n) (h1 : 1 ≤ s) (h9 : s ≤ 9) (ho : sn_go g s = 1000) : sn_GI n (sn_gC 0 (sn_gO s w g)) := by
  obtain ⟨i, c, d, st, K, V, S, oa, ca, sg, dp, pa⟩ := g
  obtain ⟨P, h1', h2, h3, h4⟩ := h
  dsimp only at P h1' h2 h4
  have hn' : i + w ≤ n := hn
  have Q := sn_Po P (by omega) h4 h1 h9 ho
  refine ⟨sn_Pc Q (by omega), ?_, hn, h3, ?_⟩
  · show c + 1 + 1 ≤ i + w + 0; omega
  · show d + 1 - 1 ≤ 4; omega
theorem sn_chrN {b : Nat → Int32} {n i : Nat} (h : sn_chr b n i ≠ -1) : i < n := by
  by_cases z : i < n
  · exact z
  · unfold sn_chr at h; rw [if_neg z] at h; exact absurd rfl h
theorem sn_dg9 {x : Int32} (h1 : 48 ≤ x) (h2 : x ≤ 57) : x = nI (48 + sn_dg x) ∧ sn_dg x ≤ 9 ∧ x - 48 = nI (sn_dg x) := by
  have h0 : ¬ x < 0 := fun z => absurd (Int32.le_trans h1 (Int32.le_of_lt z)) (by decide)
  obtain ⟨j, hj, rfl⟩ := nI_of h0
  have a : 48 ≤ j := (nI_leI (a := 48) (b := j) (by omega) hj).mp h1
  have b : j ≤ 57 := (nI_leI (a := j) (b := 57) hj (by omega)).mp h2
  have e : nI j - 48 = nI (j - 48) := pk_sub (a := j) (b := 48) a
  have e2 : sn_dg (nI j) = j - 48 := by unfold sn_dg; rw [e, nI_clamp (by omega)]
  rw [e2, e]
  exact ⟨by rw [show 48 + (j - 48) = j by omega], by omega, rfl⟩
theorem sn_dgN {x : Int32} (h1 : 48 ≤ x) : x ≠ -1 := fun z => by rw [z] at h1; exact absurd h1 (by decide)
theorem sn_refI {n s w : Nat} {g g' : sn_G} (h : sn_GI n g) (hw : 2 ≤ w) (hn : sn_gI g + w ≤ n) (h9 : s ≤ 9) (e : sn_gRef s w g = some g') : sn_GI n g' := by
  unfold sn_gRef at e
  by_cases z : s = 0
  · rw [if_pos z] at e
    unfold sn_gFin at e
    by_cases y : 0 < sn_gd g ∨ sn_go g 0 ≠ 1000
    · rw [if_pos y] at e; exact absurd e (by simp)
    · rw [if_neg y] at e
      cases e
      exact sn_GIF h (by omega) hn (by omega) (by omega)
  · rw [if_neg z] at e
    by_cases y : sn_go g s = 1000
    · rw [if_pos y] at e
      cases e
      exact sn_GIR h hw hn (by omega) h9 y
    · rw [if_neg y] at e
      unfold sn_gMir at e
      by_cases x : 0 < sn_gd g ∨ s = 0 ∨ sn_go g s = 1000
      · rw [if_pos x] at e; exact absurd e (by simp)
      · rw [if_neg x] at e
        cases e
        have q : sn_go g s = 1000 ∨ sn_go g s < g.2.1 := sn_oac h.1.2.2.2.1 s
        have q0 : g.2.1 < 1000 := h.1.1
        exact sn_GIA h (by omega) hn (Or.inr ⟨by omega, by omega, by omega, by omega, h9, by omega, rfl⟩)
theorem sn_tkB (m : Int32) : sn_tk m = 0 ∨ (5 ≤ sn_tk m ∧ sn_tk m ≤ 7 ∧ m ≠ -1) := by
  unfold sn_tk
  by_cases h1 : m = 117
  · rw [if_pos h1, h1]; exact Or.inr ⟨by omega, by omega, by decide⟩
  · rw [if_neg h1]
    by_cases h2 : m = 108
    · rw [if_pos h2, h2]; exact Or.inr ⟨by omega, by omega, by decide⟩
    · rw [if_neg h2]
      by_cases h3 : m = 99
      · rw [if_pos h3, h3]; exact Or.inr ⟨by omega, by omega, by decide⟩
      · rw [if_neg h3]; exact Or.inl rfl
theorem sn_stepI {b : Nat → Int32} {n : Nat} {g g' : sn_G} (h : sn_GI n g) (hn : sn_gI g < n) (e : sn_gStep b n g = some g') : sn_GI n g' := by
  unfold sn_gStep at e
  by_cases h1 : b (sn_gI g) = 92
  · rw [if_pos h1] at e
    unfold sn_gEsc at e
    by_cases h2 : sn_chr b n (sn_gI g + 1) = 36 ∨ sn_chr b n (sn_gI g + 1) = 92 ∨ sn_chr b n (sn_gI g + 1) = 125
    · rw [if_pos h2] at e
      cases e
      have q : sn_gI g + 1 < n := sn_chrN (b := b) (fun z => by rw [z] at h2; exact absurd h2 (by decide))
      exact sn_GIA h (by omega) (by omega) (Or.inl ⟨rfl, rfl⟩)
    · rw [if_neg h2] at e; exact absurd e (by simp)
  · rw [if_neg h1] at e
    by_cases h2 : b (sn_gI g) = 36
    · rw [if_pos h2] at e
      unfold sn_gStp at e
      by_cases h3 : 48 ≤ sn_chr b n (sn_gI g + 1) ∧ sn_chr b n (sn_gI g + 1) ≤ 57
      · rw [if_pos h3] at e
        have q : sn_gI g + 1 < n := sn_chrN (b := b) (sn_dgN h3.1)
        exact sn_refI h (by omega) (by omega) (sn_dg9 h3.1 h3.2).2.1 e
      · rw [if_neg h3] at e
        by_cases h4 : sn_chr b n (sn_gI g + 1) = 123 ∧ 48 ≤ sn_chr b n (sn_gI g + 2) ∧ sn_chr b n (sn_gI g + 2) ≤ 57
        · rw [if_pos h4] at e
          have d9 := sn_dg9 h4.2.1 h4.2.2
          unfold sn_gBr at e
          by_cases h5 : sn_chr b n (sn_gI g + 3) = 125
          · rw [if_pos h5] at e
            have q : sn_gI g + 3 < n := sn_chrN (b := b) (fun z => by rw [z] at h5; exact absurd h5 (by decide))
            exact sn_refI h (by omega) (by omega) d9.2.1 e
          · rw [if_neg h5] at e
            by_cases h6 : sn_chr b n (sn_gI g + 3) = 58
            · rw [if_pos h6] at e
              have q : sn_gI g + 3 < n := sn_chrN (b := b) (fun z => by rw [z] at h6; exact absurd h6 (by decide))
              unfold sn_gOpn at e
              by_cases h7 : sn_dg (sn_chr b n (sn_gI g + 2)) = 0 ∨ sn_go g (sn_dg (sn_chr b n (sn_gI g + 2))) ≠ 1000 ∨ 4 ≤ sn_gd g
              · rw [if_pos h7] at e; exact absurd e (by simp)
              · rw [if_neg h7] at e
                cases e
                exact sn_GIO h (by omega) (by omega) (by omega) (by omega) d9.2.1 (by omega)
            · rw [if_neg h6] at e
              by_cases h7 : sn_chr b n (sn_gI g + 3) = 47
              · rw [if_pos h7] at e
                unfold sn_gTr at e
                by_cases h8 : sn_tk (sn_chr b n (sn_gI g + 4)) = 0 ∨ sn_chr b n (sn_gI g + 5) ≠ 125
                · rw [if_pos h8] at e; exact absurd e (by simp)
                · rw [if_neg h8] at e
                  have q : sn_gI g + 5 < n := sn_chrN (b := b) (fun z => h8 (Or.inr (by rw [z]; decide)))
                  unfold sn_gMir at e
                  by_cases h9 : 0 < sn_gd g ∨ sn_dg (sn_chr b n (sn_gI g + 2)) = 0 ∨ sn_go g (sn_dg (sn_chr b n (sn_gI g + 2))) = 1000
                  · rw [if_pos h9] at e; exact absurd e (by simp)
                  · rw [if_neg h9] at e
                    cases e
                    have t := sn_tkB (sn_chr b n (sn_gI g + 4))
                    have t0 : sn_tk (sn_chr b n (sn_gI g + 4)) ≠ 0 := fun z => h8 (Or.inl z)
                    have o := sn_oac h.1.2.2.2.1 (sn_dg (sn_chr b n (sn_gI g + 2)))
                    have o' : sn_go g (sn_dg (sn_chr b n (sn_gI g + 2))) = 1000 ∨ sn_go g (sn_dg (sn_chr b n (sn_gI g + 2))) < g.2.1 := o
                    have q0 : g.2.1 < 1000 := h.1.1
                    exact sn_GIA h (by omega) (by omega) (Or.inr ⟨by omega, by omega, by omega, by omega, d9.2.1, by omega, rfl⟩)
              · rw [if_neg h7] at e; exact absurd e (by simp)
        · rw [if_neg h4] at e; exact absurd e (by simp)
    · rw [if_neg h2] at e
      by_cases h3 : b (sn_gI g) = 125
      · rw [if_pos h3] at e
        unfold sn_gCls at e
        by_cases h4 : sn_gd g = 0
        · rw [if_pos h4] at e; exact absurd e (by simp)
        · rw [if_neg h4] at e
          cases e
          exact sn_GIC h hn (by omega)
      · rw [if_neg h3] at e
        cases e
        exact sn_GIA h (by omega) (by omega) (Or.inl ⟨rfl, rfl⟩)
theorem sn_runI {b : Nat → Int32} {n : Nat} : ∀ (k : Nat) (g g' : sn_G), sn_GI n g → sn_run b n k g = some g' → sn_GI n g' := by
  intro k
  induction k with
  | zero => intro g g' h e; cases e; exact h
  | succ k ih =>
    intro g g' h e
    rw [sn_run] at e
    by_cases z : sn_gI g < n
    · rw [if_pos z] at e
      cases hs : sn_gStep b n g with
      | none => rw [hs] at e; exact absurd e (by simp)
      | some g2 => rw [hs] at e; exact ih g2 g' (sn_stepI h z hs) e
    · rw [if_neg z] at e; cases e; exact h
/-- a parsed body -/
def sn_OK (g : sn_G) : Prop :=
  sn_PI g.2.1 0 g.2.2.2.1 g.2.2.2.2.1 g.2.2.2.2.2.1 g.2.2.2.2.2.2.1 g.2.2.2.2.2.2.2.1 g.2.2.2.2.2.2.2.2.1 g.2.2.2.2.2.2.2.2.2.1 g.2.2.2.2.2.2.2.2.2.2.1 g.2.2.2.2.2.2.2.2.2.2.2 ∧ g.2.1 ≤ 65 ∧ sn_go g 0 < g.2.1
theorem sn_endI {n : Nat} {g g' : sn_G} (h : sn_GI n g) (e : sn_end g = some g') : sn_OK g' := by
  unfold sn_end at e
  obtain ⟨P, h1, h2, h3, h4⟩ := h
  by_cases z : 0 < sn_gd g
  · rw [if_pos z] at e; exact absurd e (by simp)
  · rw [if_neg z] at e
    have d0 : g.2.2.1 = 0 := by
      have : ¬ 0 < g.2.2.1 := z
      omega
    by_cases y : sn_go g 0 = 1000
    · rw [if_pos y] at e
      cases e
      obtain ⟨i, c, d, st, K, V, S, oa, ca, sg, dp, pa⟩ := g
      dsimp only at P h1 h2 d0
      subst d0
      refine ⟨sn_Pf P (by omega) y rfl, ?_, ?_⟩
      · show c + 1 ≤ 65; omega
      · show sn_u oa 0 c 0 < c + 1
        rw [sn_us]; omega
    · rw [if_neg y] at e
      cases e
      have q : sn_go g 0 = 1000 ∨ sn_go g 0 < g.2.1 := sn_oac P.2.2.2.1 0
      rw [d0] at P
      exact ⟨P, by omega, by omega⟩
theorem sn_ppI {b : Nat → Int32} {n : Nat} {g : sn_G} (hn : n ≤ 64) (e : sn_pp b n = some g) : sn_OK g := by
  unfold sn_pp at e
  cases hs : sn_run b n 64 sn_g0 with
  | none => rw [hs] at e; exact absurd e (by simp)
  | some g2 => rw [hs] at e; exact sn_endI (sn_runI 64 _ _ (sn_GI0 hn) hs) e
end SNF
