section
section SNA
theorem pk_us {f : Nat → Int32} {k : Nat} {x : Int32} : upd f k x k = x := if_pos rfl
theorem pk_un {f : Nat → Int32} {k j : Nat} {x : Int32} (h : j ≠ k) : upd f k x j = f j := if_neg h
theorem pk_sub {a b : Nat} (h : b ≤ a) : nI a - nI b = nI (a - b) := by
  obtain ⟨c, rfl⟩ : ∃ c, a = c + b := ⟨a - b, by omega⟩
  rw [← nI_add, Int32.add_sub_cancel, Nat.add_sub_cancel]
theorem pk_m1 (n : Nat) : nI (n + 1) + (-1) = nI n := by
  rw [← nI_1, Int32.add_assoc, show (1 : Int32) + (-1) = 0 from rfl, Int32.add_zero]
theorem pk_mul (a b : Nat) : nI a * nI b = nI (a * b) := (Int32.ofNat_mul a b).symm
theorem pk_sub_toInt {a b : Nat} (ha : a < 2 ^ 30) (hb : b < 2 ^ 30) : (nI a - nI b).toInt = (a : Int) - b := by
  rw [Int32.toInt_sub, nI_toInt (by omega), nI_toInt (by omega)]
  exact Int.bmod_eq_of_le (by omega) (by omega)
theorem pk_sneg {a b : Nat} (hb : b < 2 ^ 30) (h : a < b) : nI a - nI b < 0 := by
  rw [Int32.lt_iff_toInt_lt, pk_sub_toInt (by omega) hb, show (0 : Int32).toInt = 0 from by decide]
  omega
theorem pk_ix (x : Int32) {n : Nat} (hn : n < 2 ^ 31) : x < 0 ∨ nI n ≤ x ∨ ∃ j : Nat, j < n ∧ x = nI j := by
  by_cases h : x < 0
  · exact Or.inl h
  · obtain ⟨j, hj, rfl⟩ := nI_of h
    by_cases h2 : j < n
    · exact Or.inr (Or.inr ⟨j, h2, rfl⟩)
    · exact Or.inr (Or.inl (nI_le (by omega) hj))
theorem pk_le {x y : Int32} {A B : Prop} (a b : Nat) (f : a ≤ b → A) (g : b < a → B) (hx : x = nI a := by rfl) (hy : y = nI b := by rfl) (ha : a < 2 ^ 31 := by omega) (hb : b < 2 ^ 31 := by omega) : (x ≤ y → A) ∧ (¬ x ≤ y → B) := by
  subst hx hy
  rw [nI_leI ha hb]
  exact ⟨f, fun z => g (by omega)⟩
theorem pk_lt {x y : Int32} {A B : Prop} (a b : Nat) (f : a < b → A) (g : b ≤ a → B) (hx : x = nI a := by rfl) (hy : y = nI b := by rfl) (ha : a < 2 ^ 31 := by omega) (hb : b < 2 ^ 31 := by omega) : (x < y → A) ∧ (¬ x < y → B) := by
  subst hx hy
  rw [nI_ltI ha hb]
  exact ⟨f, fun z => g (by omega)⟩
theorem pk_eq {x y : Int32} {A B : Prop} (a b : Nat) (f : a = b → A) (g : a ≠ b → B) (hx : x = nI a := by rfl) (hy : y = nI b := by rfl) (ha : a < 2 ^ 31 := by omega) (hb : b < 2 ^ 31 := by omega) : (x = y → A) ∧ (¬ x = y → B) := by
  subst hx hy
  rw [nI_eq ha hb]
  exact ⟨f, g⟩
theorem pk_in {x : Int32} (n N : Nat) (h : n < N) (hx : x = nI n := by rfl) (hN : N < 2 ^ 31 := by omega) : vp_in x N := by
  subst hx
  exact vp_in_nI h hN
theorem pk_cl {x : Int32} (n : Nat) (hx : x = nI n := by rfl) (h : n < 2 ^ 31 := by omega) : x.toNatClampNeg = n := by
  subst hx
  exact nI_clamp h
theorem pk_loop {σ : Type} (W : Nat → Nat → σ → Prop) (I : Nat → σ → Prop) (e i0 : Nat) (s : σ) (hi : i0 ≤ e) (h0 : I i0 s) (hx : ∀ n s, I e s → W (n + 1) e s)
    (hs : ∀ n i s, i < e → I i s → (∀ s', I (i + 1) s' → W n (i + 1) s') → W (n + 1) i s) : ∃ n, W n i0 s :=
  ⟨e + 1, loop_i W I e hx hs (e + 1) i0 s hi (by omega) h0⟩
theorem pk_loopD {σ : Type} (W : Nat → Nat → σ → Prop) (I : Nat → σ → Prop) (hx : ∀ n s, I 0 s → W (n + 1) 0 s)
    (hs : ∀ n i s, I (i + 1) s → (∀ s', I i s' → W n i s') → W (n + 1) (i + 1) s) : ∀ (e : Nat) (s : σ), I e s → W (e + 1) e s := by
  intro e
  induction e with
  | zero => exact fun s h => hx 0 s h
  | succ e ih => exact fun s h => hs (e + 1) e s h (fun s' h' => ih s' h')
theorem pk_least (P : Nat → Prop) (h : ∃ k, P k) : ∃ k, P k ∧ ∀ j, j < k → ¬ P j := by
  obtain ⟨k, hk⟩ := h
  induction k using Nat.strongRecOn with
  | ind k ih =>
    by_cases e : ∃ j, j < k ∧ P j
    · obtain ⟨j, hj, pj⟩ := e
      exact ih j hj pj
    · exact ⟨k, hk, fun j hj pj => e ⟨j, hj, pj⟩⟩
end SNA
end
section
section SNB
/-! the pure structure: items with brackets, a stack of open stops -/
def sn_u (f : Nat → Nat) (k x : Nat) : Nat → Nat := fun j => if j = k then x else f j
theorem sn_us {f : Nat → Nat} {k x : Nat} : sn_u f k x k = x := if_pos rfl
theorem sn_un {f : Nat → Nat} {k x j : Nat} (h : j ≠ k) : sn_u f k x j = f j := if_neg h
def sn_enc (oa ca : Nat → Nat) (s x : Nat) : Prop := oa s < x ∧ x < ca s
def sn_top (d : Nat) (st : Nat → Nat) : Nat := if d = 0 then 0 else st (d - 1)
/-- the numbering of the items that are no CLOSE -/
def sn_I2 (c : Nat) (K sg : Nat → Nat) : Prop := sg 0 = 0 ∧ ∀ x, x < c → sg (x + 1) = sg x + (if K x = 2 then 0 else 1)
def sn_IV (c : Nat) (K S : Nat → Nat) (V : Nat → Int32) : Prop := ∀ x, x < c → K x ≠ 0 → V x = nI (S x)
/-- the stops: absent, the final one, open, closed -/
def sn_IA (c : Nat) (K S oa ca : Nat → Nat) : Prop := ∀ s, (oa s = 1000 ∧ ca s = 1000) ∨ (s = 0 ∧ oa s < c ∧ K (oa s) = 3 ∧ S (oa s) = 0 ∧ ca s = oa s) ∨
  (1 ≤ s ∧ s ≤ 9 ∧ oa s < c ∧ K (oa s) = 1 ∧ S (oa s) = s ∧ ca s = 1000) ∨
  (1 ≤ s ∧ s ≤ 9 ∧ oa s < ca s ∧ ca s < c ∧ K (oa s) = 1 ∧ S (oa s) = s ∧ K (ca s) = 2 ∧ S (ca s) = s)
/-- the items -/
def sn_IB (c : Nat) (K S oa ca : Nat → Nat) : Prop := ∀ x, x < c → (K x = 0 ∧ S x = 0) ∨ (K x = 1 ∧ 1 ≤ S x ∧ S x ≤ 9 ∧ oa (S x) = x) ∨ (K x = 2 ∧ 1 ≤ S x ∧ S x ≤ 9 ∧ ca (S x) = x) ∨
  (K x = 3 ∧ S x = 0 ∧ oa 0 = x) ∨ (4 ≤ K x ∧ K x ≤ 7 ∧ 1 ≤ S x ∧ S x ≤ 9 ∧ oa (S x) < x)
/-- the open ones: in the order of the stack, each at the depth of its place -/
def sn_IC (c d : Nat) (st oa ca dp : Nat → Nat) : Prop :=
  (∀ k, k < d → 1 ≤ st k ∧ st k ≤ 9 ∧ oa (st k) < c ∧ ca (st k) = 1000 ∧ dp (oa (st k)) = k) ∧
  (∀ k l, k < l → l < d → oa (st k) < oa (st l)) ∧
  (∀ s, 1 ≤ s → oa s < c → ca s = 1000 → ∃ k, k < d ∧ s = st k)
/-- nested -/
def sn_ID (oa ca : Nat → Nat) : Prop := ∀ s t, oa s < oa t → oa t < ca s → oa t < 1000 → ca t ≤ ca s
/-- parents and depths -/
def sn_IE (c : Nat) (K oa ca dp pa : Nat → Nat) : Prop :=
  ∀ x, x < c → K x ≠ 2 → (pa x = 0 ∧ dp x = 0 ∧ ∀ s, ¬ sn_enc oa ca s x) ∨
    (1 ≤ pa x ∧ pa x ≤ 9 ∧ sn_enc oa ca (pa x) x ∧ dp x = dp (oa (pa x)) + 1 ∧ dp x ≤ 4 ∧ K x < 3 ∧ ∀ t, sn_enc oa ca t x → t = pa x ∨ sn_enc oa ca t (oa (pa x)))
def sn_PI (c d : Nat) (st K : Nat → Nat) (V : Nat → Int32) (S oa ca sg dp pa : Nat → Nat) : Prop :=
  c < 1000 ∧ sn_I2 c K sg ∧ sn_IV c K S V ∧ sn_IA c K S oa ca ∧ sn_IB c K S oa ca ∧ sn_IC c d st oa ca dp ∧ sn_ID oa ca ∧ sn_IE c K oa ca dp pa
theorem sn_PI0 : sn_PI 0 0 (fun _ => 0) (fun _ => 0) (fun _ => 0) (fun _ => 0) (fun _ => 1000) (fun _ => 1000) (fun _ => 0) (fun _ => 0) (fun _ => 0) := by
  refine ⟨by omega, ⟨rfl, fun x h => absurd h (by omega)⟩, fun x h => absurd h (by omega), fun s => Or.inl ⟨rfl, rfl⟩, fun x h => absurd h (by omega),
    ⟨fun k h => absurd h (by omega), fun k l h1 h2 => absurd h2 (by omega), fun s _ h => ?_⟩, fun s t h1 h2 h3 => ?_, fun x h => absurd h (by omega)⟩
  · exact absurd h (by simp)
  · exact absurd h3 (by simp)
theorem sn_a2 {c k e : Nat} {K sg : Nat → Nat} (h : sn_I2 c K sg) (he : e = if k = 2 then 0 else 1) : sn_I2 (c + 1) (sn_u K c k) (sn_u sg (c + 1) (sg c + e)) := by
  refine ⟨by rw [sn_un (by omega)]; exact h.1, fun x hx => ?_⟩
  by_cases z : x = c
  · rw [z, sn_us, sn_us, sn_un (by omega), he]
  · rw [sn_un (j := x + 1) (by omega), sn_un (j := x) (by omega), sn_un (j := x) (by omega)]; exact h.2 x (by omega)
theorem sn_aV {c k s : Nat} {v : Int32} {K S : Nat → Nat} {V : Nat → Int32} (h : sn_IV c K S V) (hv : k ≠ 0 → v = nI s) : sn_IV (c + 1) (sn_u K c k) (sn_u S c s) (upd V c v) := by
  intro x hx
  by_cases z : x = c
  · rw [z, sn_us, sn_us, pk_us]; exact hv
  · rw [sn_un z, sn_un z, pk_un z]; exact h x (by omega)
theorem sn_aA {c k s' : Nat} {K S oa ca : Nat → Nat} (h : sn_IA c K S oa ca) : sn_IA (c + 1) (sn_u K c k) (sn_u S c s') oa ca := by
  intro s
  rcases h s with a | ⟨a1, a2, a3, a4, a5⟩ | ⟨a1, a2, a3, a4, a5, a6⟩ | ⟨a1, a2, a3, a4, a5, a6, a7, a8⟩
  · exact Or.inl a
  · have z : oa s ≠ c := by omega
    rw [sn_un z, sn_un z]
    exact Or.inr (Or.inl ⟨a1, by omega, a3, a4, a5⟩)
  · have z : oa s ≠ c := by omega
    rw [sn_un z, sn_un z]
    exact Or.inr (Or.inr (Or.inl ⟨a1, a2, by omega, a4, a5, a6⟩))
  · have z : oa s ≠ c := by omega
    have y : ca s ≠ c := by omega
    rw [sn_un z, sn_un z, sn_un y, sn_un y]
    exact Or.inr (Or.inr (Or.inr ⟨a1, a2, a3, by omega, a5, a6, a7, a8⟩))
theorem sn_oE {c : Nat} {K K' oa ca oa' ca' dp dp' pa pa' : Nat → Nat} (hE : sn_IE c K oa ca dp pa) (ho : ∀ s, oa s < c → oa' s = oa s)
    (he : ∀ s x, x < c → (sn_enc oa' ca' s x ↔ sn_enc oa ca s x)) (hK : ∀ x, x < c → K' x = K x) (hdp : ∀ x, x < c → dp' x = dp x) (hpa : ∀ x, x < c → pa' x = pa x) : sn_IE c K' oa' ca' dp' pa' := by
  intro x hx hk
  rw [hK x hx] at hk
  rw [hK x hx, hdp x hx, hpa x hx]
  rcases hE x hx hk with ⟨a, b, e⟩ | ⟨a1, a2, a3, a4, a5, a6, a7⟩
  · exact Or.inl ⟨a, b, fun s hs => e s ((he s x hx).mp hs)⟩
  · have q : oa (pa x) < c := Nat.lt_trans a3.1 hx
    rw [ho _ q, hdp _ q]
    refine Or.inr ⟨a1, a2, (he _ x hx).mpr a3, a4, a5, a6, fun t ht => ?_⟩
    rcases a7 t ((he t x hx).mp ht) with e | e
    · exact Or.inl e
    · exact Or.inr ((he t _ q).mpr e)
theorem sn_aE {c d k : Nat} {st K oa ca oa' ca' dp pa : Nat → Nat} (hE : sn_IE c K oa ca dp pa) (hC : sn_IC c d st oa ca dp) (ho : ∀ s, oa s < c → oa' s = oa s)
    (he : ∀ s x, x < c → (sn_enc oa' ca' s x ↔ sn_enc oa ca s x)) (hn : ∀ s, sn_enc oa' ca' s c → 1 ≤ s ∧ oa s < c ∧ ca s = 1000)
    (hq : ∀ s, 1 ≤ s → ca s = 1000 → oa s < c → ca' s = 1000) (hk : k < 3 ∨ d = 0) (hd : d ≤ 4) (hc : c < 1000) :
    sn_IE (c + 1) (sn_u K c k) oa' ca' (sn_u dp c d) (sn_u pa c (sn_top d st)) := by
  have old := sn_oE (K' := sn_u K c k) (oa' := oa') (ca' := ca') (dp' := sn_u dp c d) (pa' := sn_u pa c (sn_top d st)) hE ho he (fun x hx => sn_un (by omega)) (fun x hx => sn_un (by omega)) (fun x hx => sn_un (by omega))
  intro x hx hK
  by_cases z : x < c
  · exact old x z hK
  · have z : x = c := by omega
    rw [z]
    simp only [sn_us]
    by_cases d0 : d = 0
    · refine Or.inl ⟨by unfold sn_top; rw [if_pos d0], d0, fun s hs => ?_⟩
      have q := hn s hs
      obtain ⟨l, hl, _⟩ := hC.2.2 s q.1 q.2.1 q.2.2
      omega
    · have et : sn_top d st = st (d - 1) := by unfold sn_top; rw [if_neg d0]
      have hp := hC.1 (d - 1) (by omega)
      have eo := ho _ hp.2.2.1
      rw [et, eo, sn_un (by omega : oa (st (d - 1)) ≠ c)]
      refine Or.inr ⟨hp.1, hp.2.1, ⟨by rw [eo]; exact hp.2.2.1, by rw [hq _ hp.1 hp.2.2.2.1 hp.2.2.1]; exact hc⟩, by omega, hd, by omega, fun t ht => ?_⟩
      have q := hn t ht
      obtain ⟨l, hl, e⟩ := hC.2.2 t q.1 q.2.1 q.2.2
      by_cases y : l = d - 1
      · exact Or.inl (by rw [e, y])
      · have o2 := hC.2.1 l (d - 1) (by omega) (by omega)
        refine Or.inr ⟨by rw [ho _ q.2.1, e]; exact o2, ?_⟩
        rw [hq t q.1 q.2.2 q.2.1]
        omega
/-- which stops stand round the next item: the open ones -/
theorem sn_nxt {c : Nat} {K S oa ca : Nat → Nat} (h : sn_IA c K S oa ca) (hc : c < 1000) {s : Nat} (e : sn_enc oa ca s c) : 1 ≤ s ∧ oa s < c ∧ ca s = 1000 := by
  have e1 := e.1
  have e2 := e.2
  rcases h s with a | a | a | a <;> omega
theorem sn_oac {c : Nat} {K S oa ca : Nat → Nat} (h : sn_IA c K S oa ca) (s : Nat) : oa s = 1000 ∨ oa s < c := by
  rcases h s with a | a | a | a <;> omega
theorem sn_cac {c : Nat} {K S oa ca : Nat → Nat} (h : sn_IA c K S oa ca) (s : Nat) : ca s = 1000 ∨ ca s < c := by
  rcases h s with a | a | a | a <;> omega
/-- a literal or a mirror -/
theorem sn_Pl {c d k s : Nat} {v : Int32} {st K : Nat → Nat} {V : Nat → Int32} {S oa ca sg dp pa : Nat → Nat} (h : sn_PI c d st K V S oa ca sg dp pa) (hc : c < 900) (hd : d ≤ 4)
    (hk : (k = 0 ∧ s = 0) ∨ (4 ≤ k ∧ k ≤ 7 ∧ d = 0 ∧ 1 ≤ s ∧ s ≤ 9 ∧ oa s < c ∧ v = nI s)) :
    sn_PI (c + 1) d st (sn_u K c k) (upd V c v) (sn_u S c s) oa ca (sn_u sg (c + 1) (sg c + 1)) (sn_u dp c d) (sn_u pa c (sn_top d st)) := by
  obtain ⟨h0, h2, hV, hA, hB, hC, hD, hE⟩ := h
  refine ⟨by omega, sn_a2 h2 (by rw [if_neg (by omega)]), sn_aV hV (fun z => ?_), sn_aA hA, fun x hx => ?_, ⟨fun l hl => ?_, hC.2.1, fun t h1 h3 h4 => ?_⟩, hD, ?_⟩
  · rcases hk with y | y
    · omega
    · exact y.2.2.2.2.2.2
  · by_cases z : x = c
    · rw [z, sn_us, sn_us]
      rcases hk with ⟨y1, y2⟩ | ⟨y1, y2, y3, y4, y5, y6, y7⟩
      · exact Or.inl ⟨y1, y2⟩
      · exact Or.inr (Or.inr (Or.inr (Or.inr ⟨y1, y2, y4, y5, y6⟩)))
    · rw [sn_un z, sn_un z]; exact hB x (by omega)
  · have q := hC.1 l hl
    rw [sn_un (by omega)]
    exact ⟨q.1, q.2.1, by omega, q.2.2.2.1, q.2.2.2.2⟩
  · have q := sn_oac hA t
    exact hC.2.2 t h1 (by omega) h4
  · exact sn_aE hE hC (fun _ _ => rfl) (fun _ _ _ => Iff.rfl) (fun s e => sn_nxt hA h0 e) (fun _ _ e _ => e) (by omega) hd h0
/-- the final stop -/
theorem sn_Pf {c : Nat} {v : Int32} {st K : Nat → Nat} {V : Nat → Int32} {S oa ca sg dp pa : Nat → Nat} (h : sn_PI c 0 st K V S oa ca sg dp pa) (hc : c < 900)
    (h00 : oa 0 = 1000) (hv : v = nI 0) :
    sn_PI (c + 1) 0 st (sn_u K c 3) (upd V c v) (sn_u S c 0) (sn_u oa 0 c) (sn_u ca 0 c) (sn_u sg (c + 1) (sg c + 1)) (sn_u dp c 0) (sn_u pa c (sn_top 0 st)) := by
  obtain ⟨h0, h2, hV, hA, hB, hC, hD, hE⟩ := h
  have c0 : ca 0 = 1000 := by rcases hA 0 with a | a | a | a <;> omega
  have ho : ∀ s, oa s < c → sn_u oa 0 c s = oa s := fun s hs => sn_un (fun z => by rw [z] at hs; omega)
  have he : ∀ s x, x < c → (sn_enc (sn_u oa 0 c) (sn_u ca 0 c) s x ↔ sn_enc oa ca s x) := by
    intro s x hx
    unfold sn_enc
    by_cases z : s = 0
    · rw [z, sn_us, sn_us]; omega
    · rw [sn_un z, sn_un z]
  refine ⟨by omega, sn_a2 h2 (by rw [if_neg (by omega)]), sn_aV hV (fun _ => hv), fun s => ?_, fun x hx => ?_, ⟨fun l hl => absurd hl (by omega), fun l m h1 h3 => absurd h3 (by omega), fun t h1 h3 h4 => ?_⟩, fun s t h1 h3 h4 => ?_, ?_⟩
  · by_cases z : s = 0
    · rw [z, sn_us, sn_us, sn_us, sn_us]
      exact Or.inr (Or.inl ⟨rfl, by omega, rfl, rfl, rfl⟩)
    · have q := sn_aA (k := 3) (s' := 0) hA s
      rw [sn_un z, sn_un (k := 0) z]; exact q
  · by_cases z : x = c
    · rw [z, sn_us, sn_us, sn_us]
      exact Or.inr (Or.inr (Or.inr (Or.inl ⟨rfl, rfl, rfl⟩)))
    · rw [sn_un z, sn_un z]
      rcases hB x (by omega) with a | ⟨a1, a2, a3, a4⟩ | ⟨a1, a2, a3, a4⟩ | ⟨a1, a2, a3⟩ | ⟨a1, a2, a3, a4, a5⟩
      · exact Or.inl a
      · exact Or.inr (Or.inl ⟨a1, a2, a3, by rw [sn_un (by omega)]; exact a4⟩)
      · exact Or.inr (Or.inr (Or.inl ⟨a1, a2, a3, by rw [sn_un (by omega)]; exact a4⟩))
      · omega
      · exact Or.inr (Or.inr (Or.inr (Or.inr ⟨a1, a2, a3, a4, by rw [sn_un (by omega)]; exact a5⟩)))
  · rw [sn_un (by omega)] at h3 h4
    have q := sn_oac hA t
    exact hC.2.2 t h1 (by omega) h4
  · have qs := sn_oac hA s
    have qt := sn_oac hA t
    have ct := sn_cac hA t
    by_cases zs : s = 0
    · rw [zs, sn_us] at h1
      rw [zs, sn_us] at h3
      omega
    · rw [sn_un zs] at h1
      rw [sn_un zs] at h3
      rw [sn_un zs]
      by_cases zt : t = 0
      · rw [zt, sn_us] at h1
        rw [zt, sn_us] at h3
        rw [zt, sn_us]; omega
      · rw [sn_un zt] at h1 h4
        rw [sn_un zt] at h3
        rw [sn_un zt]
        exact hD s t h1 h3 h4
  · refine sn_aE hE hC ho he (fun s e => ?_) (fun s h1 e _ => ?_) (Or.inr rfl) (by omega) h0
    · by_cases z : s = 0
      · have e1 := e.1
        rw [z, sn_us] at e1
        omega
      · have e1 := e.1
        have e2 := e.2
        rw [sn_un z] at e1 e2
        exact sn_nxt hA h0 ⟨e1, e2⟩
    · rw [sn_un (by omega)]; exact e
/-- an open stop -/
theorem sn_Po {c d s0 : Nat} {st K : Nat → Nat} {V : Nat → Int32} {S oa ca sg dp pa : Nat → Nat} (h : sn_PI c d st K V S oa ca sg dp pa) (hc : c < 900) (hd : d ≤ 4)
    (h1 : 1 ≤ s0) (h9 : s0 ≤ 9) (hs : oa s0 = 1000) :
    sn_PI (c + 1) (d + 1) (sn_u st d s0) (sn_u K c 1) (upd V c (nI s0)) (sn_u S c s0) (sn_u oa s0 c) ca (sn_u sg (c + 1) (sg c + 1)) (sn_u dp c d) (sn_u pa c (sn_top d st)) := by
  obtain ⟨h0, h2, hV, hA, hB, hC, hD, hE⟩ := h
  have c0 : ca s0 = 1000 := by rcases hA s0 with a | a | a | a <;> omega
  have ho : ∀ s, oa s < c → sn_u oa s0 c s = oa s := fun s hs' => sn_un (fun z => by rw [z] at hs'; omega)
  have he : ∀ s x, x < c → (sn_enc (sn_u oa s0 c) ca s x ↔ sn_enc oa ca s x) := by
    intro s x hx
    unfold sn_enc
    by_cases z : s = s0
    · rw [z, sn_us]; omega
    · rw [sn_un z]
  refine ⟨by omega, sn_a2 h2 (by rw [if_neg (by omega)]), sn_aV hV (fun _ => rfl), fun s => ?_, fun x hx => ?_, ⟨fun l hl => ?_, fun l m hlm hm => ?_, fun t ht h3 h4 => ?_⟩, fun s t hst h3 h4 => ?_, ?_⟩
  · by_cases z : s = s0
    · rw [z, sn_us, sn_us, sn_us]
      exact Or.inr (Or.inr (Or.inl ⟨h1, h9, by omega, rfl, rfl, c0⟩))
    · have q := sn_aA (k := 1) (s' := s0) hA s
      rw [sn_un (k := s0) z]; exact q
  · by_cases z : x = c
    · rw [z, sn_us, sn_us, sn_us]
      exact Or.inr (Or.inl ⟨rfl, h1, h9, rfl⟩)
    · rw [sn_un z, sn_un z]
      have k0 : ∀ s, oa s < c → s ≠ s0 := fun s q z => by rw [z] at q; omega
      rcases hB x (by omega) with a | ⟨a1, a2, a3, a4⟩ | ⟨a1, a2, a3, a4⟩ | ⟨a1, a2, a3⟩ | ⟨a1, a2, a3, a4, a5⟩
      · exact Or.inl a
      · exact Or.inr (Or.inl ⟨a1, a2, a3, by rw [sn_un (k0 _ (by omega))]; exact a4⟩)
      · exact Or.inr (Or.inr (Or.inl ⟨a1, a2, a3, a4⟩))
      · exact Or.inr (Or.inr (Or.inr (Or.inl ⟨a1, a2, by rw [sn_un (by omega)]; exact a3⟩)))
      · exact Or.inr (Or.inr (Or.inr (Or.inr ⟨a1, a2, a3, a4, by rw [sn_un (k0 _ (by omega))]; exact a5⟩)))
  · by_cases z : l = d
    · rw [z, sn_us, sn_us, sn_us]
      exact ⟨h1, h9, by omega, c0, rfl⟩
    · have q := hC.1 l (by omega)
      rw [sn_un z, ho _ q.2.2.1, sn_un (by omega)]
      exact ⟨q.1, q.2.1, by omega, q.2.2.2.1, q.2.2.2.2⟩
  · have ql := hC.1 l (by omega)
    rw [sn_un (by omega : l ≠ d), ho _ ql.2.2.1]
    by_cases z : m = d
    · rw [z, sn_us, sn_us]; exact ql.2.2.1
    · have qm := hC.1 m (by omega)
      rw [sn_un z, ho _ qm.2.2.1]
      exact hC.2.1 l m hlm (by omega)
  · by_cases z : t = s0
    · exact ⟨d, by omega, by rw [sn_us]; exact z⟩
    · rw [sn_un z] at h3
      have q := sn_oac hA t
      obtain ⟨l, hl, e⟩ := hC.2.2 t ht (by omega) h4
      exact ⟨l, by omega, by rw [sn_un (by omega)]; exact e⟩
  · have qs := sn_oac hA s
    have qt := sn_oac hA t
    have cs := sn_cac hA s
    have ct := sn_cac hA t
    by_cases zs : s = s0
    · rw [zs, sn_us] at hst
      by_cases zt : t = s0
      · rw [zt, sn_us] at hst; omega
      · rw [sn_un zt] at hst h4; omega
    · rw [sn_un zs] at hst
      by_cases zt : t = s0
      · rw [zt, sn_us] at hst h3
        rw [zt]
        omega
      · rw [sn_un zt] at hst h3 h4
        exact hD s t hst h3 h4
  · refine sn_aE hE hC ho he (fun s e => ?_) (fun s _ e _ => e) (by omega) hd h0
    by_cases z : s = s0
    · have e1 := e.1
      rw [z, sn_us] at e1
      omega
    · have e1 := e.1
      rw [sn_un z] at e1
      exact sn_nxt hA h0 ⟨e1, e.2⟩
/-- the innermost open stop closes -/
theorem sn_Pc {c d : Nat} {st K : Nat → Nat} {V : Nat → Int32} {S oa ca sg dp pa : Nat → Nat} (h : sn_PI c (d + 1) st K V S oa ca sg dp pa) (hc : c < 900) :
    sn_PI (c + 1) d st (sn_u K c 2) (upd V c (nI (st d))) (sn_u S c (st d)) oa (sn_u ca (st d) c) (sn_u sg (c + 1) (sg c + 0)) dp pa := by
  obtain ⟨h0, h2, hV, hA, hB, hC, hD, hE⟩ := h
  have q0 := hC.1 d (by omega)
  have a0 : K (oa (st d)) = 1 ∧ S (oa (st d)) = st d := by
    rcases hA (st d) with a | a | a | a
    · omega
    · omega
    · exact ⟨a.2.2.2.1, a.2.2.2.2.1⟩
    · omega
  have he : ∀ s x, x < c → (sn_enc oa (sn_u ca (st d) c) s x ↔ sn_enc oa ca s x) := by
    intro s x hx
    unfold sn_enc
    by_cases z : s = st d
    · rw [z, sn_us]; omega
    · rw [sn_un z]
  have ne : ∀ l, l < d → st l ≠ st d := fun l hl z => by
    have q := hC.2.1 l d hl (by omega)
    rw [z] at q
    omega
  refine ⟨by omega, sn_a2 h2 (by rw [if_pos rfl]), sn_aV hV (fun _ => rfl), fun s => ?_, fun x hx => ?_, ⟨fun l hl => ?_, fun l m hlm hm => hC.2.1 l m hlm (by omega), fun t ht h3 h4 => ?_⟩, fun s t hst h3 h4 => ?_, ?_⟩
  · by_cases z : s = st d
    · rw [z, sn_us, sn_us, sn_us, sn_un (by omega), sn_un (by omega)]
      exact Or.inr (Or.inr (Or.inr ⟨q0.1, q0.2.1, by omega, by omega, a0.1, a0.2, rfl, rfl⟩))
    · have q := sn_aA (k := 2) (s' := st d) hA s
      rw [sn_un (k := st d) z]; exact q
  · by_cases z : x = c
    · rw [z, sn_us, sn_us, sn_us]
      exact Or.inr (Or.inr (Or.inl ⟨rfl, q0.1, q0.2.1, rfl⟩))
    · rw [sn_un z, sn_un z]
      rcases hB x (by omega) with a | ⟨a1, a2, a3, a4⟩ | ⟨a1, a2, a3, a4⟩ | ⟨a1, a2, a3⟩ | ⟨a1, a2, a3, a4, a5⟩
      · exact Or.inl a
      · exact Or.inr (Or.inl ⟨a1, a2, a3, a4⟩)
      · exact Or.inr (Or.inr (Or.inl ⟨a1, a2, a3, by rw [sn_un (fun y => by rw [y] at a4; omega)]; exact a4⟩))
      · exact Or.inr (Or.inr (Or.inr (Or.inl ⟨a1, a2, a3⟩)))
      · exact Or.inr (Or.inr (Or.inr (Or.inr ⟨a1, a2, a3, a4, a5⟩)))
  · have q := hC.1 l (by omega)
    rw [sn_un (ne l hl)]
    exact ⟨q.1, q.2.1, by omega, q.2.2.2.1, q.2.2.2.2⟩
  · by_cases z : t = st d
    · rw [z, sn_us] at h4; omega
    · rw [sn_un z] at h4
      have q := sn_oac hA t
      obtain ⟨l, hl, e⟩ := hC.2.2 t ht (by omega) h4
      refine ⟨l, ?_, e⟩
      by_cases y : l = d
      · rw [y] at e; exact absurd e z
      · omega
  · have qt := sn_oac hA t
    have ct := sn_cac hA t
    have cs := sn_cac hA s
    by_cases zs : s = st d
    · rw [zs, sn_us] at h3
      rw [zs] at hst
      rw [zs, sn_us]
      by_cases zt : t = st d
      · rw [zt] at hst; omega
      · rw [sn_un zt]
        rcases ct with y | y
        · have t1 : 1 ≤ t := by rcases hA t with a | a | a | a <;> omega
          obtain ⟨l, hl, e⟩ := hC.2.2 t t1 (by omega) y
          by_cases w : l = d
          · rw [w] at e; exact absurd e zt
          · have o2 := hC.2.1 l d (by omega) (by omega)
            rw [← e] at o2
            omega
        · omega
    · rw [sn_un zs] at h3
      rw [sn_un zs]
      have o2 := hD s t hst h3 h4
      by_cases zt : t = st d
      · rw [zt, sn_us]
        rw [zt] at o2
        omega
      · rw [sn_un zt]; exact o2
  · have old := sn_oE (K' := sn_u K c 2) (oa' := oa) (ca' := sn_u ca (st d) c) (dp' := dp) (pa' := pa) hE (fun _ _ => rfl) he (fun x hx => sn_un (by omega)) (fun x hx => rfl) (fun x hx => rfl)
    intro x hx hk
    by_cases z : x = c
    · rw [z, sn_us] at hk; exact absurd rfl hk
    · exact old x (by omega) hk
end SNB
end
section
section SNC
/-! lists written into arrays -/
def sn_ls (f : Nat → Int32) : Nat → List Int32
  | 0 => []
  | n + 1 => sn_ls f n ++ [f n]
theorem sn_lsL {f : Nat → Int32} {n : Nat} : (sn_ls f n).length = n := by
  induction n with
  | zero => rfl
  | succ n ih => rw [sn_ls, List.length_append, ih]; rfl
theorem sn_lsG {f : Nat → Int32} {n k : Nat} (h : k < n) : (sn_ls f n)[k]? = some (f k) := by
  induction n with
  | zero => omega
  | succ n ih =>
    rw [sn_ls]
    by_cases z : k < n
    · rw [List.getElem?_append_left (by rw [sn_lsL]; exact z)]; exact ih z
    · have e : k = n := by omega
      rw [List.getElem?_append_right (by rw [sn_lsL]; omega), sn_lsL, e, Nat.sub_self]; rfl
theorem sn_lsC {f g : Nat → Int32} {n : Nat} (h : ∀ k, k < n → f k = g k) : sn_ls f n = sn_ls g n := by
  induction n with
  | zero => rfl
  | succ n ih => rw [sn_ls, sn_ls, ih (fun k hk => h k (by omega)), h n (by omega)]
def sn_at (l : List Int32) (k : Nat) : Int32 := (l[k]?).getD 0
theorem sn_lsA {f : Nat → Int32} {n k : Nat} (h : k < n) : sn_at (sn_ls f n) k = f k := by
  unfold sn_at; rw [sn_lsG h]; rfl
theorem sn_lsE (l : List Int32) : sn_ls (sn_at l) l.length = l := by
  apply List.ext_getElem?
  intro i
  by_cases h : i < l.length
  · rw [sn_lsG h]; simp [sn_at, h]
  · rw [List.getElem?_eq_none (by rw [sn_lsL]; omega), List.getElem?_eq_none (by omega)]
theorem sn_lsD (f : Nat → Int32) (n : Nat) : ∀ m, sn_ls f n ++ sn_ls (fun k => f (n + k)) m = sn_ls f (n + m) := by
  intro m
  induction m with
  | zero => exact List.append_nil _
  | succ m ih => rw [sn_ls, ← List.append_assoc, ih]; rfl
theorem sn_atL {l m : List Int32} {k : Nat} (h : k < l.length) : sn_at (l ++ m) k = sn_at l k := by
  unfold sn_at; rw [List.getElem?_append_left h]
theorem sn_atR {l m : List Int32} {k : Nat} (h : l.length ≤ k) : sn_at (l ++ m) k = sn_at m (k - l.length) := by
  unfold sn_at; rw [List.getElem?_append_right h]
theorem sn_at1 (x : Int32) {k : Nat} (h : k = 0) : sn_at [x] k = x := by rw [h]; rfl
theorem sn_len1 (l : List Int32) (x : Int32) : (l ++ [x]).length = l.length + 1 := by rw [List.length_append]; rfl
/-- an array with a list written from p on -/
def sn_wr (t : Nat → Int32) (p : Nat) (l : List Int32) : Nat → Int32 := fun j => if p ≤ j ∧ j < p + l.length then sn_at l (j - p) else t j
theorem sn_wr0 (t : Nat → Int32) (p : Nat) : sn_wr t p [] = t := by
  funext j; unfold sn_wr; exact if_neg (fun h => by have := h.2; simp at this; omega)
theorem sn_wrA (t : Nat → Int32) (p : Nat) (l m : List Int32) : sn_wr (sn_wr t p l) (p + l.length) m = sn_wr t p (l ++ m) := by
  funext j; unfold sn_wr
  by_cases h1 : p + l.length ≤ j ∧ j < p + l.length + m.length
  · rw [if_pos h1, if_pos ⟨by omega, by rw [List.length_append]; omega⟩, sn_atR (by omega)]
    congr 1; omega
  · rw [if_neg h1]
    by_cases h2 : p ≤ j ∧ j < p + l.length
    · rw [if_pos h2, if_pos ⟨h2.1, by rw [List.length_append]; omega⟩, sn_atL (by omega)]
    · rw [if_neg h2, if_neg (by rw [List.length_append]; omega)]
theorem sn_wr1 (t : Nat → Int32) (p : Nat) (x : Int32) : sn_wr t p [x] = upd t p x := by
  funext j; unfold sn_wr upd
  by_cases z : j = p
  · rw [if_pos ⟨by omega, by show j < p + 1; omega⟩, if_pos z, sn_at1 x (by omega)]
  · rw [if_neg (fun h => by have h2 : j < p + 1 := h.2; have h1 := h.1; omega), if_neg z]
theorem sn_wrS (t : Nat → Int32) (p q : Nat) (l : List Int32) (x : Int32) (hq : q = p + l.length) : upd (sn_wr t p l) q x = sn_wr t p (l ++ [x]) := by
  rw [hq, ← sn_wrA, sn_wr1]
theorem sn_wrG {t : Nat → Int32} {p k : Nat} {l : List Int32} (h : k < l.length) : sn_wr t p l (p + k) = sn_at l k := by
  unfold sn_wr
  rw [if_pos ⟨by omega, by omega⟩]
  congr 1; omega
/-- an array that begins with a list, up to N places -/
def sn_ag (N : Nat) (b : Nat → Int32) (l : List Int32) : Prop := ∀ k, k < l.length → k < N → b k = sn_at l k
theorem sn_ag0 {N : Nat} {b : Nat → Int32} : sn_ag N b [] := fun k h => absurd h (by simp)
theorem sn_agS {N : Nat} {b : Nat → Int32} {l : List Int32} {x : Int32} (h : sn_ag N b l) : sn_ag N (upd b l.length x) (l ++ [x]) := by
  intro k h1 h2
  rw [sn_len1] at h1
  by_cases z : k = l.length
  · rw [z, pk_us, sn_atR (by omega), sn_at1 x (by omega)]
  · rw [pk_un z, sn_atL (by omega)]; exact h k (by omega) h2
theorem sn_agN {N : Nat} {b : Nat → Int32} {l : List Int32} {x : Int32} (h : sn_ag N b l) (hN : N ≤ l.length) : sn_ag N b (l ++ [x]) := by
  intro k h1 h2
  rw [sn_atL (by omega)]; exact h k (by omega) h2
theorem sn_agE {N : Nat} {b : Nat → Int32} {l : List Int32} (h : sn_ag N b l) (hN : l.length ≤ N) : sn_ls b l.length = l := by
  rw [sn_lsC (fun k hk => h k hk (by omega)), sn_lsE]
def sn_sm (f : Nat → Nat) : Nat → Nat
  | 0 => 0
  | n + 1 => sn_sm f n + f n
theorem sn_smLe {f g : Nat → Nat} {n : Nat} (h : ∀ k, k < n → f k ≤ g k) : sn_sm f n ≤ sn_sm g n := by
  induction n with
  | zero => exact Nat.le_refl _
  | succ n ih =>
    have a := ih (fun k hk => h k (by omega))
    have b := h n (by omega)
    rw [sn_sm, sn_sm]; omega
theorem sn_smLt {f g : Nat → Nat} {n j : Nat} (h : ∀ k, k < n → f k ≤ g k) (hj : j < n) (h8 : f j + 8 ≤ g j) : sn_sm f n + 8 ≤ sn_sm g n := by
  induction n with
  | zero => omega
  | succ n ih =>
    have b := h n (by omega)
    rw [sn_sm, sn_sm]
    by_cases z : j = n
    · have a := sn_smLe (f := f) (g := g) (n := n) (fun k hk => h k (by omega))
      rw [z] at h8
      omega
    · have a := ih (fun k hk => h k (by omega)) (by omega)
      omega
end SNC
end
section
section SND
/-! the pure render -/
variable {K S oa ca sg dp pa st : Nat → Nat} {V L T L' T' : Nat → Int32} {c f x i h n : Nat}
noncomputable def sn_if {α : Type} (p : Prop) (a b : α) : α := @ite α p (Classical.propDecidable p) a b
theorem sn_ifT {α : Type} {p : Prop} {a b : α} (h : p) : sn_if p a b = a := by unfold sn_if; exact if_pos h
theorem sn_ifF {α : Type} {p : Prop} {a b : α} (h : ¬ p) : sn_if p a b = b := by unfold sn_if; exact if_neg h
/-- hidden from f on: a typed stop that opens at f or behind it, round x -/
def sn_hid (oa ca : Nat → Nat) (L : Nat → Int32) (f x : Nat) : Prop := ∃ s, 1 ≤ s ∧ s ≤ 9 ∧ L s ≠ -1 ∧ f ≤ oa s ∧ oa s < x ∧ x < ca s
/-- the typed text of stop s -/
def sn_ty (L T : Nat → Int32) (s : Nat) : List Int32 := sn_ls (fun k => T (s * 8 + k)) (L s).toNatClampNeg
theorem sn_tyL {s : Nat} : (sn_ty L T s).length = (L s).toNatClampNeg := sn_lsL
/-- what an item other than a mirror shows -/
noncomputable def sn_out (K : Nat → Nat) (V : Nat → Int32) (S oa ca : Nat → Nat) (L T : Nat → Int32) (f x : Nat) : List Int32 :=
  sn_if (sn_hid oa ca L f x) [] (if K x = 0 then [V x] else sn_if (K x = 1 ∧ L (S x) ≠ -1) (sn_ty L T (S x)) [])
noncomputable def sn_sp (K : Nat → Nat) (V : Nat → Int32) (S oa ca : Nat → Nat) (L T : Nat → Int32) (f : Nat) : Nat → List Int32
  | 0 => []
  | n + 1 => sn_sp K V S oa ca L T f n ++ sn_out K V S oa ca L T f (f + n)
/-- a primary's text -/
noncomputable def sn_pt (K : Nat → Nat) (V : Nat → Int32) (S oa ca : Nat → Nat) (L T : Nat → Int32) (s : Nat) : List Int32 := sn_sp K V S oa ca L T (oa s) (ca s - oa s)
def sn_up (c : Int32) : Int32 := if 97 ≤ c ∧ c ≤ 122 then c - 32 else c
def sn_lo (c : Int32) : Int32 := if 65 ≤ c ∧ c ≤ 90 then c + 32 else c
def sn_tc (k j : Nat) (c : Int32) : Int32 := if k = 5 then sn_up c else if k = 6 then sn_lo c else if k = 7 ∧ j = 0 then sn_up c else c
def sn_tr (k : Nat) (l : List Int32) : List Int32 := sn_ls (fun j => sn_tc k j (sn_at l j)) l.length
theorem sn_trL {k : Nat} {l : List Int32} : (sn_tr k l).length = l.length := sn_lsL
/-- the first x items -/
noncomputable def sn_rr (K : Nat → Nat) (V : Nat → Int32) (S oa ca : Nat → Nat) (L T : Nat → Int32) : Nat → List Int32
  | 0 => []
  | x + 1 => sn_rr K V S oa ca L T x ++ (if 4 ≤ K x then sn_tr (K x) (sn_pt K V S oa ca L T (S x)) else sn_out K V S oa ca L T 0 x)
theorem sn_outH (h : sn_hid oa ca L f x) : sn_out K V S oa ca L T f x = [] := by unfold sn_out; exact sn_ifT h
theorem sn_out0 (h : ¬ sn_hid oa ca L f x) (k : K x = 0) : sn_out K V S oa ca L T f x = [V x] := by unfold sn_out; rw [sn_ifF h, if_pos k]
theorem sn_out1 (h : ¬ sn_hid oa ca L f x) (k : K x = 1) (l : L (S x) ≠ -1) : sn_out K V S oa ca L T f x = sn_ty L T (S x) := by
  unfold sn_out; rw [sn_ifF h, if_neg (by omega), sn_ifT ⟨k, l⟩]
theorem sn_out2 (k : K x ≠ 0) (l : ¬ (K x = 1 ∧ L (S x) ≠ -1)) : sn_out K V S oa ca L T f x = [] := by
  by_cases h : sn_hid oa ca L f x
  · exact sn_outH h
  · unfold sn_out; rw [sn_ifF h, if_neg k, sn_ifF l]
theorem sn_outC (h : sn_hid oa ca L f x ↔ sn_hid oa ca L i x) : sn_out K V S oa ca L T f x = sn_out K V S oa ca L T i x := by
  by_cases z : sn_hid oa ca L f x
  · rw [sn_outH z, sn_outH (h.mp z)]
  · unfold sn_out; rw [sn_ifF z, sn_ifF (fun y => z (h.mpr y))]
/-! X's hiddenUpTo -/
def sn_HU (oa ca : Nat → Nat) (L : Nat → Int32) (f i h : Nat) : Prop :=
  (∀ x, i ≤ x → (x < h ↔ ∃ s, 1 ≤ s ∧ s ≤ 9 ∧ L s ≠ -1 ∧ f ≤ oa s ∧ oa s < i ∧ x < ca s)) ∧ (h ≤ i ∨ ∃ s, oa s < i ∧ h = ca s)
theorem sn_hu0 : sn_HU oa ca L f f f := by
  refine ⟨fun x hx => ⟨fun z => by omega, fun ⟨s, _, _, _, a, b, _⟩ => by omega⟩, Or.inl (Nat.le_refl _)⟩
theorem sn_huH (H : sn_HU oa ca L f i h) : i < h ↔ sn_hid oa ca L f i := H.1 i (Nat.le_refl _)
theorem sn_huA (hA : sn_IA c K S oa ca) (hD : sn_ID oa ca) (hi : i < 1000) (H : sn_HU oa ca L f i h) (z : i < h ∨ ¬ (K i = 1 ∧ L (S i) ≠ -1)) : sn_HU oa ca L f (i + 1) h := by
  refine ⟨fun x hx => ⟨fun y => ?_, fun ⟨s, h1, h9, hl, hf, ho, hx2⟩ => ?_⟩, ?_⟩
  · obtain ⟨s, h1, h9, hl, hf, ho, hx2⟩ := (H.1 x (by omega)).mp y
    exact ⟨s, h1, h9, hl, hf, by omega, hx2⟩
  · by_cases e : oa s = i
    · have ks : K i = 1 ∧ S i = s := by
        rw [← e]
        rcases hA s with a | a | a | a
        · omega
        · omega
        · exact ⟨a.2.2.2.1, a.2.2.2.2.1⟩
        · exact ⟨a.2.2.2.2.1, a.2.2.2.2.2.1⟩
      rcases z with z | z
      · rcases H.2 with w | ⟨t, ht, hh⟩
        · omega
        · have q := hD t s (by omega) (by omega) (by omega)
          omega
      · exact absurd ⟨ks.1, by rw [ks.2]; exact hl⟩ z
    · exact (H.1 x (by omega)).mpr ⟨s, h1, h9, hl, hf, by omega, hx2⟩
  · rcases H.2 with w | ⟨t, ht, hh⟩
    · exact Or.inl (by omega)
    · exact Or.inr ⟨t, by omega, hh⟩
theorem sn_huB (hA : sn_IA c K S oa ca) (hB : sn_IB c K S oa ca) (hi : i < c) (hc : c < 1000) (hf : f ≤ i) (H : sn_HU oa ca L f i h) (z : h ≤ i) (k : K i = 1) (l : L (S i) ≠ -1) : sn_HU oa ca L f (i + 1) (ca (S i)) := by
  have q : 1 ≤ S i ∧ S i ≤ 9 ∧ oa (S i) = i := by
    rcases hB i hi with a | a | a | a | a
    · omega
    · exact a.2
    · omega
    · omega
    · omega
  refine ⟨fun x hx => ⟨fun y => ⟨S i, q.1, q.2.1, l, by omega, by omega, y⟩, fun ⟨s, h1, h9, hl, hf', ho, hx2⟩ => ?_⟩, Or.inr ⟨S i, by omega, rfl⟩⟩
  by_cases e : oa s = i
  · have ks : S i = s := by
      rw [← e]
      rcases hA s with a | a | a | a
      · omega
      · omega
      · exact a.2.2.2.2.1
      · exact a.2.2.2.2.2.1
    rw [ks]; exact hx2
  · have w := (H.1 x (by omega)).mpr ⟨s, h1, h9, hl, hf', by omega, hx2⟩
    omega
/-! where hidden from f on is hidden -/
theorem sn_hidP {s : Nat} (ha : ¬ sn_hid oa ca L 0 (oa s)) (hx : oa s ≤ x) : sn_hid oa ca L (oa s) x ↔ sn_hid oa ca L 0 x := by
  constructor
  · exact fun ⟨t, h1, h2, h3, _, h5, h6⟩ => ⟨t, h1, h2, h3, by omega, h5, h6⟩
  · intro ⟨t, h1, h2, h3, h4, h5, h6⟩
    refine ⟨t, h1, h2, h3, ?_, h5, h6⟩
    by_cases z : oa s ≤ oa t
    · exact z
    · exact absurd ⟨t, h1, h2, h3, h4, by omega, by omega⟩ ha
theorem sn_rrS (hh : ∀ x, f ≤ x → x < f + n → K x < 4 ∧ (sn_hid oa ca L f x ↔ sn_hid oa ca L 0 x)) : sn_rr K V S oa ca L T (f + n) = sn_rr K V S oa ca L T f ++ sn_sp K V S oa ca L T f n := by
  induction n with
  | zero => exact (List.append_nil _).symm
  | succ n ih =>
    have q := hh (f + n) (by omega) (by omega)
    show sn_rr K V S oa ca L T (f + n + 1) = _
    rw [sn_rr, sn_sp, ih (fun x h1 h2 => hh x h1 (by omega)), if_neg (by omega), sn_outC q.2, List.append_assoc]
/-- the mirrors' part of the length -/
noncomputable def sn_ms (K : Nat → Nat) (V : Nat → Int32) (S oa ca : Nat → Nat) (L T : Nat → Int32) : Nat → Nat
  | 0 => 0
  | x + 1 => sn_ms K V S oa ca L T x + (if 4 ≤ K x then (sn_pt K V S oa ca L T (S x)).length else 0)
theorem sn_rrL : (sn_rr K V S oa ca L T x).length = (sn_sp K V S oa ca L T 0 x).length + sn_ms K V S oa ca L T x := by
  induction x with
  | zero => rfl
  | succ x ih =>
    rw [sn_rr, sn_sp, sn_ms, List.length_append, List.length_append, ih, Nat.zero_add]
    by_cases k : 4 ≤ K x
    · rw [if_pos k, if_pos k, sn_trL, sn_out2 (by omega) (by omega)]
      show _ = _ + 0 + _
      omega
    · rw [if_neg k, if_neg k]; omega
theorem sn_rrM : ∀ n, (sn_rr K V S oa ca L T x).length ≤ (sn_rr K V S oa ca L T (x + n)).length := by
  intro n
  induction n with
  | zero => exact Nat.le_refl _
  | succ n ih =>
    show _ ≤ (sn_rr K V S oa ca L T (x + n + 1)).length
    rw [sn_rr, List.length_append]; omega
/-! bounds -/
def sn_q (oa : Nat → Nat) (x : Nat) : Nat := sn_sm (fun s => if oa s < x then 8 else 0) 10
theorem sn_qB (oa : Nat → Nat) (x : Nat) : sn_q oa x ≤ 80 := by
  have a := sn_smLe (f := fun s => if oa s < x then 8 else 0) (g := fun _ => 8) (n := 10) (fun k _ => by
    show (if oa k < x then 8 else 0) ≤ 8
    split <;> omega)
  exact Nat.le_trans a (by decide)
theorem sn_q1 (oa : Nat → Nat) (x : Nat) : sn_q oa x ≤ sn_q oa (x + 1) := by
  refine sn_smLe (fun k _ => ?_)
  show (if oa k < x then 8 else 0) ≤ (if oa k < x + 1 then 8 else 0)
  split
  · rw [if_pos (by omega)]; exact Nat.le_refl _
  · exact Nat.zero_le _
theorem sn_q8 {s : Nat} (hs : s < 10) (e : oa s = x) : sn_q oa x + 8 ≤ sn_q oa (x + 1) := by
  refine sn_smLt (fun k _ => ?_) hs ?_
  · show (if oa k < x then 8 else 0) ≤ (if oa k < x + 1 then 8 else 0)
    split
    · rw [if_pos (by omega)]; exact Nat.le_refl _
    · exact Nat.zero_le _
  · show (if oa s < x then 8 else 0) + 8 ≤ (if oa s < x + 1 then 8 else 0)
    rw [if_neg (by omega), if_pos (by omega)]; exact Nat.le_refl _
theorem sn_outB (hB : sn_IB c K S oa ca) (hx : x < c) (h8 : ∀ s, s ≤ 9 → (L s).toNatClampNeg ≤ 8) : (sn_out K V S oa ca L T f x).length + sn_q oa x ≤ 1 + sn_q oa (x + 1) := by
  have q := sn_q1 oa x
  by_cases h : sn_hid oa ca L f x
  · rw [sn_outH h]; show 0 + _ ≤ _; omega
  · by_cases k : K x = 0
    · rw [sn_out0 h k]; show 1 + _ ≤ _; omega
    · by_cases l : K x = 1 ∧ L (S x) ≠ -1
      · rw [sn_out1 h l.1 l.2, sn_tyL]
        rcases hB x hx with a | a | a | a | a
        · omega
        · have b := h8 (S x) a.2.2.1
          have d := sn_q8 (oa := oa) (s := S x) (x := x) (by omega) a.2.2.2
          omega
        · omega
        · omega
        · omega
      · rw [sn_out2 k l]; show 0 + _ ≤ _; omega
theorem sn_spB (hB : sn_IB c K S oa ca) (h8 : ∀ s, s ≤ 9 → (L s).toNatClampNeg ≤ 8) (hx : f + n ≤ c) : (sn_sp K V S oa ca L T f n).length + sn_q oa f ≤ n + sn_q oa (f + n) := by
  induction n with
  | zero => show 0 + _ ≤ 0 + _; exact Nat.le_refl _
  | succ n ih =>
    have a := ih (by omega)
    have b := sn_outB (V := V) (T := T) (f := f) hB (show f + n < c by omega) h8
    rw [sn_sp, List.length_append]
    show _ ≤ n + 1 + sn_q oa (f + n + 1)
    omega
theorem sn_spB' (hB : sn_IB c K S oa ca) (h8 : ∀ s, s ≤ 9 → (L s).toNatClampNeg ≤ 8) (hx : f + n ≤ c) : (sn_sp K V S oa ca L T f n).length ≤ n + 80 := by
  have a := sn_spB (V := V) (T := T) hB h8 hx
  have b := sn_qB oa (f + n)
  omega
/-! fewer typed characters, or newly typed as empty: nothing grows -/
theorem sn_m1n : (-1 : Int32).toNatClampNeg = 0 := by decide
theorem sn_outM (hB : sn_IB c K S oa ca) (hx : x < c) (h1 : ∀ s, s ≤ 9 → L s ≠ -1 → L' s ≠ -1) (h2 : ∀ s, s ≤ 9 → (L' s).toNatClampNeg ≤ (L s).toNatClampNeg) : (sn_out K V S oa ca L' T' f x).length ≤ (sn_out K V S oa ca L T f x).length := by
  have s9 : S x ≤ 9 := by rcases hB x hx with a | a | a | a | a <;> omega
  by_cases h' : sn_hid oa ca L' f x
  · rw [sn_outH h']; exact Nat.zero_le _
  · have h : ¬ sn_hid oa ca L f x := fun ⟨s, a1, a2, a3, a4⟩ => h' ⟨s, a1, a2, h1 s a2 a3, a4⟩
    by_cases k : K x = 0
    · rw [sn_out0 h' k, sn_out0 h k]; exact Nat.le_refl _
    · by_cases l' : K x = 1 ∧ L' (S x) ≠ -1
      · rw [sn_out1 h' l'.1 l'.2, sn_tyL]
        have q := h2 (S x) s9
        by_cases l : L (S x) = -1
        · rw [l, sn_m1n] at q; omega
        · rw [sn_out1 h l'.1 l, sn_tyL]; exact q
      · rw [sn_out2 k l']; exact Nat.zero_le _
theorem sn_spM (hB : sn_IB c K S oa ca) (hn : f + n ≤ c) (h1 : ∀ s, s ≤ 9 → L s ≠ -1 → L' s ≠ -1) (h2 : ∀ s, s ≤ 9 → (L' s).toNatClampNeg ≤ (L s).toNatClampNeg) : (sn_sp K V S oa ca L' T' f n).length ≤ (sn_sp K V S oa ca L T f n).length := by
  induction n with
  | zero => exact Nat.le_refl _
  | succ n ih =>
    have a := sn_outM (V := V) (T := T) (T' := T') (f := f) (x := f + n) hB (by omega) h1 h2
    have b := ih (by omega)
    rw [sn_sp, sn_sp, List.length_append, List.length_append]; omega
end SND
end
section
section SNE
/-! a closed structure: what both sides read off it -/
variable {K S oa ca sg dp pa st : Nat → Nat} {V L T L' T' : Nat → Int32} {c f x n s : Nat}
theorem sn_clo (P : sn_PI c 0 st K V S oa ca sg dp pa) (s : Nat) : (oa s = 1000 ∧ ca s = 1000) ∨ (s = 0 ∧ oa s < c ∧ K (oa s) = 3 ∧ S (oa s) = 0 ∧ ca s = oa s) ∨
    (1 ≤ s ∧ s ≤ 9 ∧ oa s < ca s ∧ ca s < c ∧ K (oa s) = 1 ∧ S (oa s) = s ∧ K (ca s) = 2 ∧ S (ca s) = s) := by
  obtain ⟨h0, h2, hV, hA, hB, hC, hD, hE⟩ := P
  rcases hA s with a | a | a | a
  · exact Or.inl a
  · exact Or.inr (Or.inl a)
  · obtain ⟨k, hk, _⟩ := hC.2.2 s a.1 a.2.2.1 a.2.2.2.2.2
    omega
  · exact Or.inr (Or.inr a)
theorem sn_mir (P : sn_PI c 0 st K V S oa ca sg dp pa) (hx : x < c) (hk : 3 ≤ K x) : pa x = 0 ∧ ∀ s, ¬ sn_enc oa ca s x := by
  rcases P.2.2.2.2.2.2.2 x hx (by omega) with a | a
  · exact ⟨a.1, a.2.2⟩
  · omega
theorem sn_mirH (P : sn_PI c 0 st K V S oa ca sg dp pa) (hx : x < c) (hk : 3 ≤ K x) : ¬ sn_hid oa ca L f x :=
  fun ⟨s, _, _, _, _, h5, h6⟩ => (sn_mir P hx hk).2 s ⟨h5, h6⟩
theorem sn_sgM (h : sn_I2 c K sg) : ∀ n, x + n ≤ c → sg x ≤ sg (x + n) := by
  intro n
  induction n with
  | zero => exact fun _ => Nat.le_refl _
  | succ n ih =>
    intro hn
    have a := ih (by omega)
    have b := h.2 (x + n) (by omega)
    have e : x + (n + 1) = x + n + 1 := by omega
    rw [e, b]; omega
theorem sn_sgM' (h : sn_I2 c K sg) {y : Nat} (hxy : x ≤ y) (hy : y ≤ c) : sg x ≤ sg y := by
  have a := sn_sgM h (x := x) (y - x) (by omega)
  rw [show x + (y - x) = y by omega] at a
  exact a
theorem sn_sgS (h : sn_I2 c K sg) {y : Nat} (hxy : x < y) (hy : y ≤ c) (hk : K x ≠ 2) : sg x < sg y := by
  have a := sn_sgM' h (x := x + 1) (y := y) (by omega) hy
  have b := h.2 x (by omega)
  rw [if_neg hk] at b
  omega
theorem sn_sg1 (h : sn_I2 c K sg) (hx : x < c) (hk : K x ≠ 2) : sg (x + 1) = sg x + 1 := by
  have b := h.2 x hx
  rw [if_neg hk] at b
  exact b
theorem sn_sg2 (h : sn_I2 c K sg) (hx : x < c) (hk : K x = 2) : sg (x + 1) = sg x := by
  have b := h.2 x hx
  rw [if_pos hk] at b
  exact b
theorem sn_sgx (h : sn_I2 c K sg) : x ≤ c → sg x ≤ x := by
  induction x with
  | zero => intro _; rw [h.1]; exact Nat.le_refl _
  | succ x ih =>
    intro hx
    have a := ih (by omega)
    have b := h.2 x (by omega)
    rw [b]
    split <;> omega
theorem sn_rr2 (k : K x = 2) : sn_rr K V S oa ca L T (x + 1) = sn_rr K V S oa ca L T x := by
  rw [sn_rr, if_neg (by omega), sn_out2 (by omega) (by omega), List.append_nil]
theorem sn_sp2 (k : K (f + n) = 2) : sn_sp K V S oa ca L T f (n + 1) = sn_sp K V S oa ca L T f n := by
  rw [sn_sp, sn_out2 (by omega) (by omega), List.append_nil]
/-- one step up the parents -/
theorem sn_ch (P : sn_PI c 0 st K V S oa ca sg dp pa) (L : Nat → Int32) (hx : x < c) (hk : K x ≠ 2) : (pa x = 0 ∧ (∀ f, ¬ sn_hid oa ca L f x) ∧ ∀ s, ¬ sn_enc oa ca s x) ∨
    (1 ≤ pa x ∧ pa x ≤ 9 ∧ oa (pa x) < x ∧ x < ca (pa x) ∧ dp x = dp (oa (pa x)) + 1 ∧ dp x ≤ 4 ∧ K (oa (pa x)) = 1 ∧ S (oa (pa x)) = pa x ∧
      (∀ f, (sn_hid oa ca L f x ↔ f ≤ oa (pa x) ∧ (L (pa x) ≠ -1 ∨ sn_hid oa ca L f (oa (pa x))))) ∧ ∀ s, sn_enc oa ca s x → s = pa x ∨ sn_enc oa ca s (oa (pa x))) := by
  rcases P.2.2.2.2.2.2.2 x hx hk with a | ⟨a1, a2, a3, a4, a5, a6, a7⟩
  · exact Or.inl ⟨a.1, fun f ⟨s, _, _, _, _, h5, h6⟩ => a.2.2 s ⟨h5, h6⟩, a.2.2⟩
  · have b1 := a3.1
    have b2 := a3.2
    have q := sn_clo P (pa x)
    have k : K (oa (pa x)) = 1 ∧ S (oa (pa x)) = pa x := by
      rcases q with q | q | q
      · omega
      · omega
      · exact ⟨q.2.2.2.2.1, q.2.2.2.2.2.1⟩
    refine Or.inr ⟨a1, a2, b1, b2, a4, a5, k.1, k.2, fun f => ⟨fun ⟨s, h1, h9, hl, hf, ho, hc⟩ => ?_, fun ⟨hf, hl⟩ => ?_⟩, a7⟩
    · rcases a7 s ⟨ho, hc⟩ with e | e
      · rw [← e]; exact ⟨hf, Or.inl hl⟩
      · have e1 := e.1
        exact ⟨by omega, Or.inr ⟨s, h1, h9, hl, hf, e.1, e.2⟩⟩
    · rcases hl with hl | ⟨s, h1, h9, hl, hf', ho, hc⟩
      · exact ⟨pa x, a1, a2, hl, hf, b1, b2⟩
      · have d := P.2.2.2.2.2.2.1 s (pa x) ho hc (by have := P.1; omega)
        exact ⟨s, h1, h9, hl, hf', by omega, by omega⟩
/-- where Y's walk over a primary ends -/
theorem sn_exit (P : sn_PI c 0 st K V S oa ca sg dp pa) (h1 : 1 ≤ s) (hs : oa s < c) : ∃ y, ca s ≤ y ∧ y ≤ c ∧ sg y = sg (ca s) ∧ (y = c ∨ (y < c ∧ K y ≠ 2 ∧ (pa y = 0 ∨ (1 ≤ pa y ∧ oa (pa y) < oa s)))) := by
  have h0 := P.1
  have q : oa s < ca s ∧ ca s < c := by
    rcases sn_clo P s with a | a | a <;> omega
  have go : ∀ m y, m + y = c → ca s ≤ y → (∀ z, ca s ≤ z → z < y → K z = 2) → sg y = sg (ca s) → ∃ y, ca s ≤ y ∧ y ≤ c ∧ sg y = sg (ca s) ∧ (y = c ∨ (y < c ∧ K y ≠ 2 ∧ (pa y = 0 ∨ (1 ≤ pa y ∧ oa (pa y) < oa s)))) := by
    intro m
    induction m with
    | zero => exact fun y hy h2 h3 h4 => ⟨y, h2, by omega, h4, Or.inl (by omega)⟩
    | succ m ih =>
      intro y hy h2 h3 h4
      by_cases k : K y = 2
      · refine ih (y + 1) (by omega) (by omega) (fun z hz1 hz2 => ?_) (by rw [sn_sg2 P.2.1 (by omega) k]; exact h4)
        by_cases e : z = y
        · rw [e]; exact k
        · exact h3 z hz1 (by omega)
      · refine ⟨y, h2, by omega, h4, Or.inr ⟨by omega, k, ?_⟩⟩
        rcases P.2.2.2.2.2.2.2 y (by omega) k with a | ⟨a1, a2, a3, a4, a5, a6, a7⟩
        · exact Or.inl a.1
        · refine Or.inr ⟨a1, ?_⟩
          have b1 := a3.1
          have b2 := a3.2
          by_cases z : oa (pa y) < oa s
          · exact z
          · exfalso
            by_cases e : oa (pa y) = oa s
            · have e2 : pa y = s := by
                have s1 : S (oa s) = s := by
                  rcases sn_clo P s with a | a | a
                  · omega
                  · omega
                  · exact a.2.2.2.2.2.1
                have s2 : S (oa (pa y)) = pa y := by
                  rcases sn_clo P (pa y) with a | a | a
                  · omega
                  · omega
                  · exact a.2.2.2.2.2.1
                rw [← s2, e, s1]
              rw [e2] at b2
              omega
            · by_cases w : oa (pa y) < ca s
              · have d := P.2.2.2.2.2.2.1 s (pa y) (by omega) w (by have := P.1; omega)
                omega
              · have k2 := h3 (oa (pa y)) (by omega) b1
                rcases sn_clo P (pa y) with a | a | a
                · omega
                · omega
                · omega
  exact go (c - ca s) (ca s) (by omega) (Nat.le_refl _) (fun z hz1 hz2 => absurd hz1 (by omega)) rfl
theorem sn_hid1 (P : sn_PI c 0 st K V S oa ca sg dp pa) (hs : oa s < c) (h1 : 1 ≤ s) (hl : L s = -1) : sn_hid oa ca L (oa s) x ↔ sn_hid oa ca L (oa s + 1) x := by
  constructor
  · intro ⟨t, t1, t9, tl, tf, to, tc⟩
    refine ⟨t, t1, t9, tl, ?_, to, tc⟩
    by_cases e : oa t = oa s
    · exfalso
      have h0 := P.1
      have s1 : S (oa s) = s := by
        rcases sn_clo P s with a | a | a
        · omega
        · omega
        · exact a.2.2.2.2.2.1
      have s2 : S (oa t) = t := by
        rcases sn_clo P t with a | a | a
        · omega
        · omega
        · exact a.2.2.2.2.2.1
      rw [e, s1] at s2
      rw [← s2] at tl
      exact tl hl
    · omega
  · exact fun ⟨t, t1, t9, tl, tf, to, tc⟩ => ⟨t, t1, t9, tl, by omega, to, tc⟩
theorem sn_sp1 (P : sn_PI c 0 st K V S oa ca sg dp pa) (hs : oa s < c) (h1 : 1 ≤ s) : (L s = -1 → sn_sp K V S oa ca L T (oa s) 1 = []) ∧ (L s ≠ -1 → sn_sp K V S oa ca L T (oa s) 1 = sn_ty L T s) := by
  have h0 := P.1
  have q : K (oa s) = 1 ∧ S (oa s) = s := by
    rcases sn_clo P s with a | a | a
    · omega
    · omega
    · exact ⟨a.2.2.2.2.1, a.2.2.2.2.2.1⟩
  have nh : ¬ sn_hid oa ca L (oa s) (oa s) := fun ⟨t, _, _, _, hf, ho, _⟩ => by omega
  constructor
  · intro hl
    show [] ++ sn_out K V S oa ca L T (oa s) (oa s) = []
    rw [sn_out2 (by omega) (fun z => z.2 (by rw [q.2]; exact hl))]; rfl
  · intro hl
    show [] ++ sn_out K V S oa ca L T (oa s) (oa s) = _
    rw [sn_out1 nh q.1 (by rw [q.2]; exact hl), q.2]; rfl
theorem sn_ptT (P : sn_PI c 0 st K V S oa ca sg dp pa) (hs : oa s < c) (h1 : 1 ≤ s) (hl : L s ≠ -1) : sn_pt K V S oa ca L T s = sn_ty L T s := by
  have h0 := P.1
  have q : s ≤ 9 ∧ oa s < ca s ∧ ca s < c := by
    rcases sn_clo P s with a | a | a <;> omega
  have go : ∀ n, n < ca s - oa s → sn_sp K V S oa ca L T (oa s) (n + 1) = sn_ty L T s := by
    intro n
    induction n with
    | zero => exact fun _ => (sn_sp1 P hs h1).2 hl
    | succ n ih =>
      intro hn
      rw [sn_sp, ih (by omega), sn_outH ⟨s, h1, q.1, hl, Nat.le_refl _, by omega, by omega⟩, List.append_nil]
  have a := go (ca s - oa s - 1) (by omega)
  rw [show ca s - oa s - 1 + 1 = ca s - oa s by omega] at a
  exact a
theorem sn_ptB (P : sn_PI c 0 st K V S oa ca sg dp pa) (hc : c ≤ 65) (h8 : ∀ s, s ≤ 9 → (L s).toNatClampNeg ≤ 8) (hs : s ≤ 9) : (sn_pt K V S oa ca L T s).length ≤ 145 := by
  unfold sn_pt
  have h0 := P.1
  rcases sn_clo P s with a | a | a
  · rw [a.1, a.2]; show 0 ≤ 145; omega
  · rw [a.2.2.2.2, Nat.sub_self]; show 0 ≤ 145; omega
  · have b := sn_spB' (V := V) (T := T) (f := oa s) (n := ca s - oa s) P.2.2.2.2.1 h8 (by omega)
    omega
theorem sn_rrB (P : sn_PI c 0 st K V S oa ca sg dp pa) (hc : c ≤ 65) (h8 : ∀ s, s ≤ 9 → (L s).toNatClampNeg ≤ 8) : x ≤ c → (sn_rr K V S oa ca L T x).length ≤ 145 * x := by
  induction x with
  | zero => exact fun _ => Nat.le_refl _
  | succ x ih =>
    intro hx
    have a := ih (by omega)
    rw [sn_rr, List.length_append]
    by_cases k : 4 ≤ K x
    · rw [if_pos k, sn_trL]
      have q : S x ≤ 9 := by
        rcases P.2.2.2.2.1 x (by omega) with b | b | b | b | b <;> omega
      have b := sn_ptB (V := V) (T := T) P hc h8 q
      omega
    · rw [if_neg k]
      have b := sn_spB' (V := V) (T := T) (f := 0) (n := x) P.2.2.2.2.1 h8 (by omega)
      have d := sn_outB (V := V) (T := T) (f := 0) P.2.2.2.2.1 (show x < c by omega) h8
      have e := sn_qB oa (x + 1)
      omega
theorem sn_rrB' (P : sn_PI c 0 st K V S oa ca sg dp pa) (hc : c ≤ 65) (h8 : ∀ s, s ≤ 9 → (L s).toNatClampNeg ≤ 8) (hx : x ≤ c) : (sn_rr K V S oa ca L T x).length ≤ 10000 := by
  have a := sn_rrB (V := V) (T := T) P hc h8 hx
  omega
/-- an alive stop's end -/
theorem sn_rrP (P : sn_PI c 0 st K V S oa ca sg dp pa) (h1 : 1 ≤ s) (hs : oa s < c) (ha : ¬ sn_hid oa ca L 0 (oa s)) :
    sn_rr K V S oa ca L T (ca s) = sn_rr K V S oa ca L T (oa s) ++ sn_pt K V S oa ca L T s := by
  have h0 := P.1
  have q : oa s < ca s ∧ ca s < c ∧ K (oa s) = 1 := by
    rcases sn_clo P s with a | a | a
    · omega
    · omega
    · exact ⟨a.2.2.1, a.2.2.2.1, a.2.2.2.2.1⟩
  have kk : ∀ x, oa s ≤ x → x < oa s + (ca s - oa s) → K x < 4 := by
    intro x h1 h2
    by_cases z : 4 ≤ K x
    · exfalso
      by_cases e : x = oa s
      · rw [e] at z; omega
      · exact (sn_mir (x := x) P (by omega) (by omega)).2 s ⟨by omega, by omega⟩
    · omega
  have a := sn_rrS (K := K) (V := V) (S := S) (oa := oa) (ca := ca) (L := L) (T := T) (f := oa s) (n := ca s - oa s) (fun x h1 h2 => ⟨kk x h1 h2, sn_hidP ha h1⟩)
  rw [show oa s + (ca s - oa s) = ca s by omega] at a
  exact a
/-- from behind a mirror on -/
theorem sn_rrF (P : sn_PI c 0 st K V S oa ca sg dp pa) (hm : f = 0 ∨ (∃ m, f = m + 1 ∧ m < c ∧ 4 ≤ K m)) (hn : f + n ≤ c) (hk : ∀ x, f ≤ x → x < f + n → K x < 4) :
    sn_rr K V S oa ca L T (f + n) = sn_rr K V S oa ca L T f ++ sn_sp K V S oa ca L T f n := by
  refine sn_rrS (fun x h1 h2 => ⟨hk x h1 h2, ⟨fun ⟨t, t1, t9, tl, tf, to, tc⟩ => ⟨t, t1, t9, tl, by omega, to, tc⟩, fun ⟨t, t1, t9, tl, tf, to, tc⟩ => ⟨t, t1, t9, tl, ?_, to, tc⟩⟩⟩)
  rcases hm with e | ⟨m, e, hm, km⟩
  · omega
  · by_cases z : f ≤ oa t
    · exact z
    · exfalso
      by_cases e2 : oa t = m
      · have h0 := P.1
        have k1 : K (oa t) = 1 := by
          rcases sn_clo P t with a | a | a
          · omega
          · omega
          · exact a.2.2.2.2.1
        rw [e2] at k1
        omega
      · exact (sn_mir P hm (by omega)).2 t ⟨by omega, by omega⟩
theorem sn_rrMo (P : sn_PI c 0 st K V S oa ca sg dp pa) (h1 : ∀ s, s ≤ 9 → L s ≠ -1 → L' s ≠ -1) (h2 : ∀ s, s ≤ 9 → (L' s).toNatClampNeg ≤ (L s).toNatClampNeg) : x ≤ c → (sn_rr K V S oa ca L' T' x).length ≤ (sn_rr K V S oa ca L T x).length := by
  induction x with
  | zero => exact fun _ => Nat.le_refl _
  | succ x ih =>
    intro hx
    have i := ih (by omega)
    have h0 := P.1
    rw [sn_rr, sn_rr, List.length_append, List.length_append]
    by_cases k : 4 ≤ K x
    · rw [if_pos k, if_pos k, sn_trL, sn_trL]
      have q : oa (S x) + (ca (S x) - oa (S x)) ≤ c ∨ ca (S x) - oa (S x) = 0 := by
        rcases sn_clo P (S x) with a | a | a <;> omega
      have a : (sn_pt K V S oa ca L' T' (S x)).length ≤ (sn_pt K V S oa ca L T (S x)).length := by
        unfold sn_pt
        rcases q with q | q
        · exact sn_spM P.2.2.2.2.1 q h1 h2
        · rw [q]; exact Nat.le_refl _
      omega
    · rw [if_neg k, if_neg k]
      have a := sn_outM (V := V) (T := T) (T' := T') (f := 0) (x := x) P.2.2.2.2.1 (by omega) h1 h2
      omega
theorem sn_rrLC (P : sn_PI c 0 st K V S oa ca sg dp pa) (hl : ∀ s, s ≤ 9 → L' s = L s) (hx : x ≤ c) : (sn_rr K V S oa ca L' T' x).length = (sn_rr K V S oa ca L T x).length :=
  Nat.le_antisymm (sn_rrMo P (fun s hs z => by rw [hl s hs]; exact z) (fun s hs => by rw [hl s hs]; exact Nat.le_refl _) hx)
    (sn_rrMo P (fun s hs z => by rw [← hl s hs]; exact z) (fun s hs => by rw [hl s hs]; exact Nat.le_refl _) hx)
end SNE
end
section
section SNF
/-! the pure parse: i (read), c (items), d and st (open stops), K V S (kinds, values, stops), oa ca, sg, dp, pa -/
abbrev sn_G : Type := Nat × Nat × Nat × (Nat → Nat) × (Nat → Nat) × (Nat → Int32) × (Nat → Nat) × (Nat → Nat) × (Nat → Nat) × (Nat → Nat) × (Nat → Nat) × (Nat → Nat)
def sn_gA (k : Nat) (v : Int32) (s w : Nat) : sn_G → sn_G
  | (i, c, d, st, K, V, S, oa, ca, sg, dp, pa) => (i + w, c + 1, d, st, sn_u K c k, upd V c v, sn_u S c s, oa, ca, sn_u sg (c + 1) (sg c + 1), sn_u dp c d, sn_u pa c (sn_top d st))
def sn_gF (w : Nat) : sn_G → sn_G
  | (i, c, d, st, K, V, S, oa, ca, sg, dp, pa) => (i + w, c + 1, d, st, sn_u K c 3, upd V c 0, sn_u S c 0, sn_u oa 0 c, sn_u ca 0 c, sn_u sg (c + 1) (sg c + 1), sn_u dp c d, sn_u pa c (sn_top d st))
def sn_gO (s w : Nat) : sn_G → sn_G
  | (i, c, d, st, K, V, S, oa, ca, sg, dp, pa) => (i + w, c + 1, d + 1, sn_u st d s, sn_u K c 1, upd V c (nI s), sn_u S c s, sn_u oa s c, ca, sn_u sg (c + 1) (sg c + 1), sn_u dp c d, sn_u pa c (sn_top d st))
def sn_gC (w : Nat) : sn_G → sn_G
  | (i, c, d, st, K, V, S, oa, ca, sg, dp, pa) => (i + w, c + 1, d - 1, st, sn_u K c 2, upd V c (nI (st (d - 1))), sn_u S c (st (d - 1)), oa, sn_u ca (st (d - 1)) c, sn_u sg (c + 1) (sg c + 0), dp, pa)
def sn_gI (g : sn_G) : Nat := g.1
def sn_gd (g : sn_G) : Nat := g.2.2.1
def sn_go (g : sn_G) : Nat → Nat := g.2.2.2.2.2.2.2.1
def sn_gFin (w : Nat) (g : sn_G) : Option sn_G := if 0 < sn_gd g ∨ sn_go g 0 ≠ 1000 then none else some (sn_gF w g)
def sn_gMir (s k w : Nat) (g : sn_G) : Option sn_G := if 0 < sn_gd g ∨ s = 0 ∨ sn_go g s = 1000 then none else some (sn_gA k (nI s) s w g)
def sn_gRef (s w : Nat) (g : sn_G) : Option sn_G := if s = 0 then sn_gFin w g else if sn_go g s = 1000 then some (sn_gC 0 (sn_gO s w g)) else sn_gMir s 4 w g
def sn_gOpn (s : Nat) (g : sn_G) : Option sn_G := if s = 0 ∨ sn_go g s ≠ 1000 ∨ 4 ≤ sn_gd g then none else some (sn_gO s 4 g)
def sn_gCls (g : sn_G) : Option sn_G := if sn_gd g = 0 then none else some (sn_gC 1 g)
def sn_chr (b : Nat → Int32) (n i : Nat) : Int32 := if i < n then b i else -1
def sn_tk (m : Int32) : Nat := if m = 117 then 5 else if m = 108 then 6 else if m = 99 then 7 else 0
def sn_dg (x : Int32) : Nat := (x - 48).toNatClampNeg
def sn_gTr (b : Nat → Int32) (n s : Nat) (g : sn_G) : Option sn_G :=
  if sn_tk (sn_chr b n (sn_gI g + 4)) = 0 ∨ sn_chr b n (sn_gI g + 5) ≠ 125 then none else sn_gMir s (sn_tk (sn_chr b n (sn_gI g + 4))) 6 g
def sn_gBr (b : Nat → Int32) (n s : Nat) (g : sn_G) : Option sn_G :=
  if sn_chr b n (sn_gI g + 3) = 125 then sn_gRef s 4 g else if sn_chr b n (sn_gI g + 3) = 58 then sn_gOpn s g else if sn_chr b n (sn_gI g + 3) = 47 then sn_gTr b n s g else none
def sn_gStp (b : Nat → Int32) (n : Nat) (g : sn_G) : Option sn_G :=
  if 48 ≤ sn_chr b n (sn_gI g + 1) ∧ sn_chr b n (sn_gI g + 1) ≤ 57 then sn_gRef (sn_dg (sn_chr b n (sn_gI g + 1))) 2 g
  else if sn_chr b n (sn_gI g + 1) = 123 ∧ 48 ≤ sn_chr b n (sn_gI g + 2) ∧ sn_chr b n (sn_gI g + 2) ≤ 57 then sn_gBr b n (sn_dg (sn_chr b n (sn_gI g + 2))) g else none
def sn_gEsc (b : Nat → Int32) (n : Nat) (g : sn_G) : Option sn_G :=
  if sn_chr b n (sn_gI g + 1) = 36 ∨ sn_chr b n (sn_gI g + 1) = 92 ∨ sn_chr b n (sn_gI g + 1) = 125 then some (sn_gA 0 (sn_chr b n (sn_gI g + 1)) 0 2 g) else none
def sn_gStep (b : Nat → Int32) (n : Nat) (g : sn_G) : Option sn_G :=
  if b (sn_gI g) = 92 then sn_gEsc b n g else if b (sn_gI g) = 36 then sn_gStp b n g else if b (sn_gI g) = 125 then sn_gCls g else some (sn_gA 0 (b (sn_gI g)) 0 1 g)
def sn_run (b : Nat → Int32) (n : Nat) : Nat → sn_G → Option sn_G
  | 0, g => some g
  | k + 1, g => if sn_gI g < n then (sn_gStep b n g).bind (sn_run b n k) else some g
def sn_g0 : sn_G := (0, 0, 0, fun _ => 0, fun _ => 0, fun _ => 0, fun _ => 0, fun _ => 1000, fun _ => 1000, fun _ => 0, fun _ => 0, fun _ => 0)
def sn_end (g : sn_G) : Option sn_G := if 0 < sn_gd g then none else if sn_go g 0 = 1000 then some (sn_gF 0 g) else some g
def sn_pp (b : Nat → Int32) (n : Nat) : Option sn_G := (sn_run b n 64 sn_g0).bind sn_end
/-- the body up to n gives the same parse -/
theorem sn_chrC {b b' : Nat → Int32} {n : Nat} (h : ∀ k, k < n → b k = b' k) (i : Nat) : sn_chr b n i = sn_chr b' n i := by
  unfold sn_chr
  by_cases z : i < n
  · rw [if_pos z, if_pos z, h i z]
  · rw [if_neg z, if_neg z]
theorem sn_stepC {b b' : Nat → Int32} {n : Nat} (h : ∀ k, k < n → b k = b' k) {g : sn_G} (hg : sn_gI g < n) : sn_gStep b n g = sn_gStep b' n g := by
  unfold sn_gStep sn_gEsc sn_gStp sn_gBr sn_gTr
  rw [h _ hg, sn_chrC h (sn_gI g + 1), sn_chrC h (sn_gI g + 2), sn_chrC h (sn_gI g + 3), sn_chrC h (sn_gI g + 4), sn_chrC h (sn_gI g + 5)]
theorem sn_runC {b b' : Nat → Int32} {n : Nat} (h : ∀ k, k < n → b k = b' k) : ∀ (k : Nat) (g : sn_G), sn_run b n k g = sn_run b' n k g := by
  intro k
  induction k with
  | zero => exact fun g => rfl
  | succ k ih =>
    intro g
    rw [sn_run, sn_run]
    by_cases z : sn_gI g < n
    · rw [if_pos z, if_pos z, sn_stepC h z, show sn_run b n k = sn_run b' n k from funext ih]
    · rw [if_neg z, if_neg z]
theorem sn_ppC {b b' : Nat → Int32} {n : Nat} (h : ∀ k, k < n → b k = b' k) : sn_pp b n = sn_pp b' n := by
  unfold sn_pp; rw [sn_runC h]
/-- what each step keeps -/
def sn_GI (n : Nat) (g : sn_G) : Prop :=
  sn_PI g.2.1 g.2.2.1 g.2.2.2.1 g.2.2.2.2.1 g.2.2.2.2.2.1 g.2.2.2.2.2.2.1 g.2.2.2.2.2.2.2.1 g.2.2.2.2.2.2.2.2.1 g.2.2.2.2.2.2.2.2.2.1 g.2.2.2.2.2.2.2.2.2.2.1 g.2.2.2.2.2.2.2.2.2.2.2 ∧
  g.2.1 ≤ g.1 ∧ g.1 ≤ n ∧ n ≤ 64 ∧ g.2.2.1 ≤ 4
theorem sn_GI0 {n : Nat} (hn : n ≤ 64) : sn_GI n sn_g0 := ⟨sn_PI0, Nat.le_refl _, Nat.zero_le _, hn, by show 0 ≤ 4; omega⟩
theorem sn_GIA {n k s w : Nat} {v : Int32} {g : sn_G} (h : sn_GI n g) (hw : 1 ≤ w) (hn : sn_gI g + w ≤ n) (hk : (k = 0 ∧ s = 0) ∨ (4 ≤ k ∧ k ≤ 7 ∧ sn_gd g = 0 ∧ 1 ≤ s ∧ s ≤ 9 ∧ sn_go g s < 1000 ∧ v = nI s)) : sn_GI n (sn_gA k v s w g) := by
  obtain ⟨i, c, d, st, K, V, S, oa, ca, sg, dp, pa⟩ := g
  obtain ⟨P, h1, h2, h3, h4⟩ := h
  dsimp only at P h1 h2 h4
  have hn' : i + w ≤ n := hn
  refine ⟨sn_Pl P (by omega) h4 ?_, ?_, hn, h3, h4⟩
  · rcases hk with a | ⟨a1, a2, a3, a4, a5, a6, a7⟩
    · exact Or.inl a
    · have q := sn_oac P.2.2.2.1 s
      have a6' : oa s < 1000 := a6
      have a8 : oa s < c := by omega
      exact Or.inr ⟨a1, a2, a3, a4, a5, a8, a7⟩
  · show c + 1 ≤ i + w; omega
theorem sn_GIF {n w : Nat} {g : sn_G} (h : sn_GI n g) (hw : 1 ≤ w) (hn : sn_gI g + w ≤ n) (hd : sn_gd g = 0) (ho : sn_go g 0 = 1000) : sn_GI n (sn_gF w g) := by
  obtain ⟨i, c, d, st, K, V, S, oa, ca, sg, dp, pa⟩ := g
  obtain ⟨P, h1, h2, h3, h4⟩ := h
  dsimp only at P h1 h2 h4
  have hn' : i + w ≤ n := hn
  have hd' : d = 0 := hd
  subst hd'
  refine ⟨sn_Pf P (by omega) ho rfl, ?_, hn, h3, h4⟩
  show c + 1 ≤ i + w; omega
theorem sn_GIO {n s w : Nat} {g : sn_G} (h : sn_GI n g) (hw : 1 ≤ w) (hn : sn_gI g + w ≤ n) (hd : sn_gd g < 4) (h1 : 1 ≤ s) (h9 : s ≤ 9) (ho : sn_go g s = 1000) : sn_GI n (sn_gO s w g) := by
  obtain ⟨i, c, d, st, K, V, S, oa, ca, sg, dp, pa⟩ := g
  obtain ⟨P, h1', h2, h3, h4⟩ := h
  dsimp only at P h1' h2 h4
  have hn' : i + w ≤ n := hn
  refine ⟨sn_Po P (by omega) h4 h1 h9 ho, ?_, hn, h3, ?_⟩
  · show c + 1 ≤ i + w; omega
  · have hd' : d < 4 := hd
    show d + 1 ≤ 4; omega
theorem sn_GIC {n : Nat} {g : sn_G} (h : sn_GI n g) (hn : sn_gI g < n) (hd : 0 < sn_gd g) : sn_GI n (sn_gC 1 g) := by
  obtain ⟨i, c, d, st, K, V, S, oa, ca, sg, dp, pa⟩ := g
  obtain ⟨P, h1', h2, h3, h4⟩ := h
  dsimp only at P h1' h2 h4
  have hn' : i < n := hn
  have hd' : 0 < d := hd
  obtain ⟨e, rfl⟩ : ∃ e, d = e + 1 := ⟨d - 1, by omega⟩
  refine ⟨sn_Pc P (by omega), ?_, hn, h3, ?_⟩
  · show c + 1 ≤ i + 1; omega
  · show e + 1 - 1 ≤ 4; omega
theorem sn_GIR {n s w : Nat} {g : sn_G} (h : sn_GI n g) (hw : 2 ≤ w) (hn : sn_gI g + w ≤ n) (h1 : 1 ≤ s) (h9 : s ≤ 9) (ho : sn_go g s = 1000) : sn_GI n (sn_gC 0 (sn_gO s w g)) := by
  obtain ⟨i, c, d, st, K, V, S, oa, ca, sg, dp, pa⟩ := g
  obtain ⟨P, h1', h2, h3, h4⟩ := h
  dsimp only at P h1' h2 h4
  have hn' : i + w ≤ n := hn
  have Q := sn_Po P (by omega) h4 h1 h9 ho
  refine ⟨sn_Pc Q (by omega), ?_, hn, h3, ?_⟩
  · show c + 1 + 1 ≤ i + w + 0; omega
  · show d + 1 - 1 ≤ 4; omega
theorem sn_chrN {b : Nat → Int32} {n i : Nat} (h : sn_chr b n i ≠ -1) : i < n := by
  by_cases z : i < n
  · exact z
  · unfold sn_chr at h; rw [if_neg z] at h; exact absurd rfl h
theorem sn_dg9 {x : Int32} (h1 : 48 ≤ x) (h2 : x ≤ 57) : x = nI (48 + sn_dg x) ∧ sn_dg x ≤ 9 ∧ x - 48 = nI (sn_dg x) := by
  have h0 : ¬ x < 0 := fun z => absurd (Int32.le_trans h1 (Int32.le_of_lt z)) (by decide)
  obtain ⟨j, hj, rfl⟩ := nI_of h0
  have a : 48 ≤ j := (nI_leI (a := 48) (b := j) (by omega) hj).mp h1
  have b : j ≤ 57 := (nI_leI (a := j) (b := 57) hj (by omega)).mp h2
  have e : nI j - 48 = nI (j - 48) := pk_sub (a := j) (b := 48) a
  have e2 : sn_dg (nI j) = j - 48 := by unfold sn_dg; rw [e, nI_clamp (by omega)]
  rw [e2, e]
  exact ⟨by rw [show 48 + (j - 48) = j by omega], by omega, rfl⟩
theorem sn_dgN {x : Int32} (h1 : 48 ≤ x) : x ≠ -1 := fun z => by rw [z] at h1; exact absurd h1 (by decide)
theorem sn_refI {n s w : Nat} {g g' : sn_G} (h : sn_GI n g) (hw : 2 ≤ w) (hn : sn_gI g + w ≤ n) (h9 : s ≤ 9) (e : sn_gRef s w g = some g') : sn_GI n g' := by
  unfold sn_gRef at e
  by_cases z : s = 0
  · rw [if_pos z] at e
    unfold sn_gFin at e
    by_cases y : 0 < sn_gd g ∨ sn_go g 0 ≠ 1000
    · rw [if_pos y] at e; exact absurd e (by simp)
    · rw [if_neg y] at e
      cases e
      exact sn_GIF h (by omega) hn (by omega) (by omega)
  · rw [if_neg z] at e
    by_cases y : sn_go g s = 1000
    · rw [if_pos y] at e
      cases e
      exact sn_GIR h hw hn (by omega) h9 y
    · rw [if_neg y] at e
      unfold sn_gMir at e
      by_cases x : 0 < sn_gd g ∨ s = 0 ∨ sn_go g s = 1000
      · rw [if_pos x] at e; exact absurd e (by simp)
      · rw [if_neg x] at e
        cases e
        have q : sn_go g s = 1000 ∨ sn_go g s < g.2.1 := sn_oac h.1.2.2.2.1 s
        have q0 : g.2.1 < 1000 := h.1.1
        exact sn_GIA h (by omega) hn (Or.inr ⟨by omega, by omega, by omega, by omega, h9, by omega, rfl⟩)
theorem sn_tkB (m : Int32) : sn_tk m = 0 ∨ (5 ≤ sn_tk m ∧ sn_tk m ≤ 7 ∧ m ≠ -1) := by
  unfold sn_tk
  by_cases h1 : m = 117
  · rw [if_pos h1, h1]; exact Or.inr ⟨by omega, by omega, by decide⟩
  · rw [if_neg h1]
    by_cases h2 : m = 108
    · rw [if_pos h2, h2]; exact Or.inr ⟨by omega, by omega, by decide⟩
    · rw [if_neg h2]
      by_cases h3 : m = 99
      · rw [if_pos h3, h3]; exact Or.inr ⟨by omega, by omega, by decide⟩
      · rw [if_neg h3]; exact Or.inl rfl
theorem sn_stepI {b : Nat → Int32} {n : Nat} {g g' : sn_G} (h : sn_GI n g) (hn : sn_gI g < n) (e : sn_gStep b n g = some g') : sn_GI n g' := by
  unfold sn_gStep at e
  by_cases h1 : b (sn_gI g) = 92
  · rw [if_pos h1] at e
    unfold sn_gEsc at e
    by_cases h2 : sn_chr b n (sn_gI g + 1) = 36 ∨ sn_chr b n (sn_gI g + 1) = 92 ∨ sn_chr b n (sn_gI g + 1) = 125
    · rw [if_pos h2] at e
      cases e
      have q : sn_gI g + 1 < n := sn_chrN (b := b) (fun z => by rw [z] at h2; exact absurd h2 (by decide))
      exact sn_GIA h (by omega) (by omega) (Or.inl ⟨rfl, rfl⟩)
    · rw [if_neg h2] at e; exact absurd e (by simp)
  · rw [if_neg h1] at e
    by_cases h2 : b (sn_gI g) = 36
    · rw [if_pos h2] at e
      unfold sn_gStp at e
      by_cases h3 : 48 ≤ sn_chr b n (sn_gI g + 1) ∧ sn_chr b n (sn_gI g + 1) ≤ 57
      · rw [if_pos h3] at e
        have q : sn_gI g + 1 < n := sn_chrN (b := b) (sn_dgN h3.1)
        exact sn_refI h (by omega) (by omega) (sn_dg9 h3.1 h3.2).2.1 e
      · rw [if_neg h3] at e
        by_cases h4 : sn_chr b n (sn_gI g + 1) = 123 ∧ 48 ≤ sn_chr b n (sn_gI g + 2) ∧ sn_chr b n (sn_gI g + 2) ≤ 57
        · rw [if_pos h4] at e
          have d9 := sn_dg9 h4.2.1 h4.2.2
          unfold sn_gBr at e
          by_cases h5 : sn_chr b n (sn_gI g + 3) = 125
          · rw [if_pos h5] at e
            have q : sn_gI g + 3 < n := sn_chrN (b := b) (fun z => by rw [z] at h5; exact absurd h5 (by decide))
            exact sn_refI h (by omega) (by omega) d9.2.1 e
          · rw [if_neg h5] at e
            by_cases h6 : sn_chr b n (sn_gI g + 3) = 58
            · rw [if_pos h6] at e
              have q : sn_gI g + 3 < n := sn_chrN (b := b) (fun z => by rw [z] at h6; exact absurd h6 (by decide))
              unfold sn_gOpn at e
              by_cases h7 : sn_dg (sn_chr b n (sn_gI g + 2)) = 0 ∨ sn_go g (sn_dg (sn_chr b n (sn_gI g + 2))) ≠ 1000 ∨ 4 ≤ sn_gd g
              · rw [if_pos h7] at e; exact absurd e (by simp)
              · rw [if_neg h7] at e
                cases e
                exact sn_GIO h (by omega) (by omega) (by omega) (by omega) d9.2.1 (by omega)
            · rw [if_neg h6] at e
              by_cases h7 : sn_chr b n (sn_gI g + 3) = 47
              · rw [if_pos h7] at e
                unfold sn_gTr at e
                by_cases h8 : sn_tk (sn_chr b n (sn_gI g + 4)) = 0 ∨ sn_chr b n (sn_gI g + 5) ≠ 125
                · rw [if_pos h8] at e; exact absurd e (by simp)
                · rw [if_neg h8] at e
                  have q : sn_gI g + 5 < n := sn_chrN (b := b) (fun z => h8 (Or.inr (by rw [z]; decide)))
                  unfold sn_gMir at e
                  by_cases h9 : 0 < sn_gd g ∨ sn_dg (sn_chr b n (sn_gI g + 2)) = 0 ∨ sn_go g (sn_dg (sn_chr b n (sn_gI g + 2))) = 1000
                  · rw [if_pos h9] at e; exact absurd e (by simp)
                  · rw [if_neg h9] at e
                    cases e
                    have t := sn_tkB (sn_chr b n (sn_gI g + 4))
                    have t0 : sn_tk (sn_chr b n (sn_gI g + 4)) ≠ 0 := fun z => h8 (Or.inl z)
                    have o := sn_oac h.1.2.2.2.1 (sn_dg (sn_chr b n (sn_gI g + 2)))
                    have o' : sn_go g (sn_dg (sn_chr b n (sn_gI g + 2))) = 1000 ∨ sn_go g (sn_dg (sn_chr b n (sn_gI g + 2))) < g.2.1 := o
                    have q0 : g.2.1 < 1000 := h.1.1
                    exact sn_GIA h (by omega) (by omega) (Or.inr ⟨by omega, by omega, by omega, by omega, d9.2.1, by omega, rfl⟩)
              · rw [if_neg h7] at e; exact absurd e (by simp)
        · rw [if_neg h4] at e; exact absurd e (by simp)
    · rw [if_neg h2] at e
      by_cases h3 : b (sn_gI g) = 125
      · rw [if_pos h3] at e
        unfold sn_gCls at e
        by_cases h4 : sn_gd g = 0
        · rw [if_pos h4] at e; exact absurd e (by simp)
        · rw [if_neg h4] at e
          cases e
          exact sn_GIC h hn (by omega)
      · rw [if_neg h3] at e
        cases e
        exact sn_GIA h (by omega) (by omega) (Or.inl ⟨rfl, rfl⟩)
theorem sn_runI {b : Nat → Int32} {n : Nat} : ∀ (k : Nat) (g g' : sn_G), sn_GI n g → sn_run b n k g = some g' → sn_GI n g' := by
  intro k
  induction k with
  | zero => intro g g' h e; cases e; exact h
  | succ k ih =>
    intro g g' h e
    rw [sn_run] at e
    by_cases z : sn_gI g < n
    · rw [if_pos z] at e
      cases hs : sn_gStep b n g with
      | none => rw [hs] at e; exact absurd e (by simp)
      | some g2 => rw [hs] at e; exact ih g2 g' (sn_stepI h z hs) e
    · rw [if_neg z] at e; cases e; exact h
/-- a parsed body -/
def sn_OK (g : sn_G) : Prop :=
  sn_PI g.2.1 0 g.2.2.2.1 g.2.2.2.2.1 g.2.2.2.2.2.1 g.2.2.2.2.2.2.1 g.2.2.2.2.2.2.2.1 g.2.2.2.2.2.2.2.2.1 g.2.2.2.2.2.2.2.2.2.1 g.2.2.2.2.2.2.2.2.2.2.1 g.2.2.2.2.2.2.2.2.2.2.2 ∧ g.2.1 ≤ 65 ∧ sn_go g 0 < g.2.1
theorem sn_endI {n : Nat} {g g' : sn_G} (h : sn_GI n g) (e : sn_end g = some g') : sn_OK g' := by
  unfold sn_end at e
  obtain ⟨P, h1, h2, h3, h4⟩ := h
  by_cases z : 0 < sn_gd g
  · rw [if_pos z] at e; exact absurd e (by simp)
  · rw [if_neg z] at e
    have d0 : g.2.2.1 = 0 := by
      have : ¬ 0 < g.2.2.1 := z
      omega
    by_cases y : sn_go g 0 = 1000
    · rw [if_pos y] at e
      cases e
      obtain ⟨i, c, d, st, K, V, S, oa, ca, sg, dp, pa⟩ := g
      dsimp only at P h1 h2 d0
      subst d0
      refine ⟨sn_Pf P (by omega) y rfl, ?_, ?_⟩
      · show c + 1 ≤ 65; omega
      · show sn_u oa 0 c 0 < c + 1
        rw [sn_us]; omega
    · rw [if_neg y] at e
      cases e
      have q : sn_go g 0 = 1000 ∨ sn_go g 0 < g.2.1 := sn_oac P.2.2.2.1 0
      rw [d0] at P
      exact ⟨P, by omega, by omega⟩
theorem sn_ppI {b : Nat → Int32} {n : Nat} {g : sn_G} (hn : n ≤ 64) (e : sn_pp b n = some g) : sn_OK g := by
  unfold sn_pp at e
  cases hs : sn_run b n 64 sn_g0 with
  | none => rw [hs] at e; exact absurd e (by simp)
  | some g2 => rw [hs] at e; exact sn_endI (sn_runI 64 _ _ (sn_GI0 hn) hs) e
end SNF
end
section
section SNG
/-! how the two classes hold a structure -/
variable {K S oa ca sg dp pa st : Nat → Nat} {V : Nat → Int32} {c d : Nat}
def sn_o (y : Nat) : Int32 := if y = 1000 then -1 else nI y
theorem sn_o0 {y : Nat} (h : y = 1000) : sn_o y = -1 := if_pos h
theorem sn_o1 {y : Nat} (h : y ≠ 1000) : sn_o y = nI y := if_neg h
def sn_XS (c : Nat) (K : Nat → Nat) (V : Nat → Int32) (oa ca : Nat → Nat) (ik iv op cl : Nat → Int32) : Prop :=
  (∀ x, x < c → ik x = nI (K x) ∧ iv x = V x) ∧ (∀ s, s ≤ 9 → op s = sn_o (oa s)) ∧ (∀ s, s ≤ 9 → cl s = sn_o (ca s))
theorem sn_xA {k : Nat} {v : Int32} {ik iv op cl : Nat → Int32} (h : sn_XS c K V oa ca ik iv op cl) : sn_XS (c + 1) (sn_u K c k) (upd V c v) oa ca (upd ik c (nI k)) (upd iv c v) op cl := by
  refine ⟨fun x hx => ?_, h.2⟩
  by_cases z : x = c
  · rw [z, pk_us, pk_us, sn_us, pk_us]; exact ⟨rfl, rfl⟩
  · rw [pk_un z, pk_un z, sn_un z, pk_un z]; exact h.1 x (by omega)
theorem sn_xO {s y : Nat} {ik iv op cl : Nat → Int32} (h : sn_XS c K V oa ca ik iv op cl) (hy : y ≠ 1000) : sn_XS c K V (sn_u oa s y) ca ik iv (upd op s (nI y)) cl := by
  refine ⟨h.1, fun t ht => ?_, h.2.2⟩
  by_cases z : t = s
  · rw [z, pk_us, sn_us, sn_o1 hy]
  · rw [pk_un z, sn_un z]; exact h.2.1 t ht
theorem sn_xC {s y : Nat} {ik iv op cl : Nat → Int32} (h : sn_XS c K V oa ca ik iv op cl) (hy : y ≠ 1000) : sn_XS c K V oa (sn_u ca s y) ik iv op (upd cl s (nI y)) := by
  refine ⟨h.1, h.2.1, fun t ht => ?_⟩
  by_cases z : t = s
  · rw [z, pk_us, sn_us, sn_o1 hy]
  · rw [pk_un z, sn_un z]; exact h.2.2 t ht
def sn_yp (sg oa : Nat → Nat) (p : Nat) : Int32 := if p = 0 then -1 else nI (sg (oa p))
/-- kind and val of Y for an item of kind k with value v -/
def sn_yk (k : Nat) (v kk vv : Int32) : Prop := (k = 0 → kk = 0 ∧ vv = v) ∧ (k = 1 → kk = 1 ∨ kk = 2) ∧ (k = 3 → kk = 4) ∧ (4 ≤ k → kk = 3 ∧ vv = nI (k - 4))
def sn_YS (c : Nat) (K : Nat → Nat) (V : Nat → Int32) (S oa sg pa : Nat → Nat) (nI' fi : Int32) (ki va so pr pm : Nat → Int32) : Prop :=
  nI' = nI (sg c) ∧ (∀ x, x < c → K x ≠ 2 → so (sg x) = nI (S x) ∧ pr (sg x) = sn_yp sg oa (pa x) ∧ sn_yk (K x) (V x) (ki (sg x)) (va (sg x))) ∧
  (∀ s, 1 ≤ s → s ≤ 9 → pm s = if oa s = 1000 then -1 else nI (sg (oa s))) ∧ (fi = if oa 0 = 1000 then -1 else nI (sg (oa 0)))
theorem sn_pa0 (P : sn_PI c d st K V S oa ca sg dp pa) {x : Nat} (hx : x < c) (hk : K x ≠ 2) : pa x = 0 ∨ oa (pa x) < c := by
  rcases P.2.2.2.2.2.2.2 x hx hk with a | ⟨a1, a2, a3, _⟩
  · exact Or.inl a.1
  · have := a3.1
    exact Or.inr (by omega)
theorem sn_ypC {sg' oa' : Nat → Nat} {p : Nat} (h : p = 0 ∨ sg' (oa' p) = sg (oa p)) : sn_yp sg' oa' p = sn_yp sg oa p := by
  unfold sn_yp
  rcases h with h | h
  · rw [if_pos h, if_pos h]
  · rw [h]
theorem sn_yA {k s p : Nat} {v n0 fi kk vv pp : Int32} {ki va so pr pm : Nat → Int32} (P : sn_PI c d st K V S oa ca sg dp pa) (h : sn_YS c K V S oa sg pa n0 fi ki va so pr pm)
    (hyk : sn_yk k v kk vv) (hp : p = 0 ∨ oa p < c) (hpp : pp = sn_yp sg oa p) :
    sn_YS (c + 1) (sn_u K c k) (upd V c v) (sn_u S c s) oa (sn_u sg (c + 1) (sg c + 1)) (sn_u pa c p) (nI (sg c + 1)) fi (upd ki (sg c) kk) (upd va (sg c) vv) (upd so (sg c) (nI s)) (upd pr (sg c) pp) pm := by
  have oc : ∀ t, oa t ≠ 1000 → oa t < c := fun t z => by
    have := sn_oac P.2.2.2.1 t
    omega
  have c0 := P.1
  refine ⟨by rw [sn_us], fun x hx hk => ?_, fun t h1 h9 => ?_, ?_⟩
  · by_cases z : x = c
    · rw [z, sn_us, sn_us, sn_us, pk_us, sn_un (show c ≠ c + 1 by omega), pk_us, pk_us, pk_us, pk_us]
      refine ⟨rfl, ?_, hyk⟩
      rw [hpp]
      refine (sn_ypC ?_).symm
      rcases hp with e | e
      · exact Or.inl e
      · exact Or.inr (sn_un (by omega))
    · rw [sn_un z] at hk
      have q := h.2.1 x (by omega) hk
      have lt := sn_sgS P.2.1 (show x < c by omega) (Nat.le_refl c) hk
      have ne : sg x ≠ sg c := by omega
      rw [sn_un z, sn_un z, sn_un z, pk_un z, sn_un (show x ≠ c + 1 by omega), pk_un ne, pk_un ne, pk_un ne, pk_un ne]
      refine ⟨q.1, ?_, q.2.2⟩
      rw [q.2.1]
      refine (sn_ypC ?_).symm
      rcases sn_pa0 P (show x < c by omega) hk with e | e
      · exact Or.inl e
      · exact Or.inr (sn_un (by omega))
  · rw [h.2.2.1 t h1 h9]
    by_cases z : oa t = 1000
    · rw [if_pos z, if_pos z]
    · have := oc t z
      rw [if_neg z, if_neg z, sn_un (by omega)]
  · rw [h.2.2.2]
    by_cases z : oa 0 = 1000
    · rw [if_pos z, if_pos z]
    · have := oc 0 z
      rw [if_neg z, if_neg z, sn_un (by omega)]
/-- a stop's place is set -/
theorem sn_yO {s y : Nat} {n0 fi : Int32} {ki va so pr pm : Nat → Int32} (h : sn_YS c K V S oa sg pa n0 fi ki va so pr pm) (hs : 1 ≤ s) (hy : y ≠ 1000) (ha : oa s = 1000)
    (hp : ∀ x, x < c → K x ≠ 2 → pa x = 0 ∨ oa (pa x) ≠ 1000) : sn_YS c K V S (sn_u oa s y) sg pa n0 fi ki va so pr (upd pm s (nI (sg y))) := by
  refine ⟨h.1, fun x hx hk => ?_, fun t h1 h9 => ?_, ?_⟩
  · have q := h.2.1 x hx hk
    refine ⟨q.1, ?_, q.2.2⟩
    rw [q.2.1]
    refine (sn_ypC ?_).symm
    rcases hp x hx hk with e | e
    · exact Or.inl e
    · refine Or.inr ?_
      rw [sn_un (fun z => by rw [z] at e; exact e ha)]
  · by_cases z : t = s
    · rw [z, pk_us, sn_us, if_neg hy]
    · rw [pk_un z, sn_un z]; exact h.2.2.1 t h1 h9
  · rw [sn_un (by omega)]; exact h.2.2.2
theorem sn_yF {y : Nat} {n0 fi : Int32} {ki va so pr pm : Nat → Int32} (h : sn_YS c K V S oa sg pa n0 fi ki va so pr pm) (hy : y ≠ 1000) :
    sn_YS c K V S (sn_u oa 0 y) sg pa n0 (nI (sg y)) ki va so pr pm := by
  refine ⟨h.1, fun x hx hk => ?_, fun t h1 h9 => ?_, ?_⟩
  · have q := h.2.1 x hx hk
    refine ⟨q.1, ?_, q.2.2⟩
    rw [q.2.1]
    refine (sn_ypC ?_).symm
    by_cases z : pa x = 0
    · exact Or.inl z
    · exact Or.inr (by rw [sn_un z])
  · rw [sn_un (by omega)]; exact h.2.2.1 t h1 h9
  · rw [sn_us, if_neg hy]
/-- a CLOSE is nothing for Y -/
theorem sn_yC {s : Nat} {v n0 fi : Int32} {ki va so pr pm : Nat → Int32} (P : sn_PI c d st K V S oa ca sg dp pa) (h : sn_YS c K V S oa sg pa n0 fi ki va so pr pm) :
    sn_YS (c + 1) (sn_u K c 2) (upd V c v) (sn_u S c s) oa (sn_u sg (c + 1) (sg c + 0)) pa n0 fi ki va so pr pm := by
  have oc : ∀ t, oa t ≠ 1000 → oa t < c := fun t z => by
    have := sn_oac P.2.2.2.1 t
    omega
  refine ⟨by rw [sn_us]; exact h.1, fun x hx hk => ?_, fun t h1 h9 => ?_, ?_⟩
  · by_cases z : x = c
    · rw [z, sn_us] at hk; exact absurd rfl hk
    · rw [sn_un z] at hk
      have q := h.2.1 x (by omega) hk
      rw [sn_un z, sn_un z, pk_un z, sn_un (show x ≠ c + 1 by omega)]
      refine ⟨q.1, ?_, q.2.2⟩
      rw [q.2.1]
      refine (sn_ypC ?_).symm
      rcases sn_pa0 P (show x < c by omega) hk with e | e
      · exact Or.inl e
      · exact Or.inr (sn_un (by omega))
  · rw [h.2.2.1 t h1 h9]
    by_cases z : oa t = 1000
    · rw [if_pos z, if_pos z]
    · have := oc t z
      rw [if_neg z, if_neg z, sn_un (by omega)]
  · rw [h.2.2.2]
    by_cases z : oa 0 = 1000
    · rw [if_pos z, if_pos z]
    · have := oc 0 z
      rw [if_neg z, if_neg z, sn_un (by omega)]
/-- n places of a from p written into b from q on -/
def sn_cp (a : Nat → Int32) (p : Nat) (b : Nat → Int32) (q n : Nat) : Nat → Int32 := fun j => if q ≤ j ∧ j < q + n then a (p + (j - q)) else b j
theorem sn_cp0 (a : Nat → Int32) (p : Nat) (b : Nat → Int32) (q : Nat) : sn_cp a p b q 0 = b := by
  funext j; unfold sn_cp; exact if_neg (by omega)
theorem sn_cpS (a : Nat → Int32) (p : Nat) (b : Nat → Int32) (q n : Nat) : upd (sn_cp a p b q n) (q + n) (a (p + n)) = sn_cp a p b q (n + 1) := by
  funext j; unfold sn_cp upd
  by_cases z : j = q + n
  · rw [if_pos z, if_pos (by omega), z, show q + n - q = n by omega]
  · rw [if_neg z]
    dsimp only
    by_cases y : q ≤ j ∧ j < q + n
    · rw [if_pos y, if_pos (by omega)]
    · rw [if_neg y, if_neg (by omega)]
theorem sn_cpI {a b : Nat → Int32} {p q n j : Nat} (h : j < n) : sn_cp a p b q n (q + j) = a (p + j) := by
  unfold sn_cp; rw [if_pos (by omega), show q + j - q = j by omega]
theorem sn_cpO {a b : Nat → Int32} {p q n j : Nat} (h : j < q ∨ q + n ≤ j) : sn_cp a p b q n j = b j := by
  unfold sn_cp; exact if_neg (by omega)
end SNG
end
section
section SNH
/-! states and snapshots -/
variable {K S oa ca sg dp pa st : Nat → Nat} {V : Nat → Int32} {c : Nat}
def sn_TL (x t l : Int32) : Prop := (x = -1 ∧ t = 0 ∧ l = 0) ∨ (∃ m : Nat, m ≤ 8 ∧ x = nI m ∧ t = 1 ∧ l = nI m)
def sn_b1 (x : Int32) : Prop := x = 0 ∨ x = 1
/-- what holds in a session -/
def sn_SF (c : Nat) (K : Nat → Nat) (V : Nat → Int32) (S oa ca : Nat → Nat) (bl l : Nat) (act xsl : Int32) (L : Nat → Int32) : Prop :=
  ∃ a : Nat, act = nI a ∧ 1 ≤ a ∧ a ≤ 9 ∧ oa a < c ∧ ¬ sn_hid oa ca L 0 (oa a) ∧ (xsl = 0 → L a ≠ -1) ∧ l = bl + (sn_rr K V S oa ca L (fun _ => 0) c).length
/-- two states, but for their texts -/
def sn_SQ (G : Prop) (c : Nat) (K : Nat → Nat) (V : Nat → Int32) (S oa ca : Nat → Nat) (cap bl : Nat) (xln xcr xac xsl yse ysl : Int32) (L : Nat → Int32) : Prop :=
  sn_b1 xsl ∧ sn_b1 ysl ∧ ∃ l k : Nat, xln = nI l ∧ xcr = nI k ∧ k ≤ l ∧ l ≤ cap ∧ ((xac = -1 ∧ yse = 0) ∨ (yse = 1 ∧ ysl = xsl ∧ G ∧ sn_SF c K V S oa ca bl l xac xsl L))
def sn_SS (G : Prop) (c : Nat) (K : Nat → Nat) (V : Nat → Int32) (S oa ca : Nat → Nat) (cap bl : Nat) (xln xcr xse xac xsl yln ycr ysn yse yac ysl : Int32) (xt yt L ty tl xT yT : Nat → Int32) : Prop :=
  yln = xln ∧ ycr = xcr ∧ ysn = xse ∧ yac = xac ∧ (∀ k, k < 64 → yt k = xt k) ∧ (∀ k, k < 80 → yT k = xT k) ∧ (∀ s, s ≤ 9 → sn_TL (L s) (ty s) (tl s)) ∧
  sn_SQ G c K V S oa ca cap bl xln xcr xac xsl yse ysl L
def sn_HS (G : Prop) (c : Nat) (K : Nat → Nat) (V : Nat → Int32) (S oa ca : Nat → Nat) (cap bl : Nat) (xh yh : Nat → Int32) (h : Nat) : Prop :=
  sn_SS G c K V S oa ca cap bl (xh (159 * h)) (xh (159 * h + 1)) (xh (159 * h + 2)) (xh (159 * h + 3)) (xh (159 * h + 4)) (yh (170 * h + 64)) (yh (170 * h + 65)) (yh (170 * h + 66)) (yh (170 * h + 67)) (yh (170 * h + 68)) (yh (170 * h + 69))
    (fun k => xh (159 * h + 5 + k)) (fun k => yh (170 * h + k)) (fun k => xh (159 * h + 69 + k)) (fun k => yh (170 * h + 70 + k)) (fun k => yh (170 * h + 80 + k)) (fun k => xh (159 * h + 79 + k)) (fun k => yh (170 * h + 90 + k))
theorem sn_hidC {L L' : Nat → Int32} (hl : ∀ s, s ≤ 9 → L' s = L s) {f x : Nat} : sn_hid oa ca L' f x ↔ sn_hid oa ca L f x := by
  constructor
  · exact fun ⟨s, h1, h9, h3, h4⟩ => ⟨s, h1, h9, by rw [← hl s h9]; exact h3, h4⟩
  · exact fun ⟨s, h1, h9, h3, h4⟩ => ⟨s, h1, h9, by rw [hl s h9]; exact h3, h4⟩
theorem sn_SQc {G : Prop} {cap bl : Nat} {xln xcr xac xsl yse ysl : Int32} {L L' : Nat → Int32} (hP : G → sn_PI c 0 st K V S oa ca sg dp pa)
    (hl : ∀ s, s ≤ 9 → L' s = L s) (h : sn_SQ G c K V S oa ca cap bl xln xcr xac xsl yse ysl L) : sn_SQ G c K V S oa ca cap bl xln xcr xac xsl yse ysl L' := by
  obtain ⟨h1, h2, l, k, e1, e2, h3, h4, h5⟩ := h
  refine ⟨h1, h2, l, k, e1, e2, h3, h4, ?_⟩
  rcases h5 with h5 | ⟨h5, h6, h7, a, a1, a2, a3, a4, a5, a6, a7⟩
  · exact Or.inl h5
  · refine Or.inr ⟨h5, h6, h7, a, a1, a2, a3, a4, fun z => a5 ((sn_hidC hl).mp z), fun z => by rw [hl a a3]; exact a6 z, ?_⟩
    rw [a7, sn_rrLC (T := fun _ => 0) (T' := fun _ => 0) (hP h7) hl (Nat.le_refl c)]
theorem sn_SSc {G : Prop} {cap bl : Nat} {xln xcr xse xac xsl yln ycr ysn yse yac ysl : Int32} {xt yt L ty tl xT yT xt' yt' L' ty' tl' xT' yT' : Nat → Int32} (hP : G → sn_PI c 0 st K V S oa ca sg dp pa)
    (h1 : ∀ k, k < 64 → xt' k = xt k) (h2 : ∀ k, k < 64 → yt' k = yt k) (h3 : ∀ s, s ≤ 9 → L' s = L s) (h4 : ∀ s, s ≤ 9 → ty' s = ty s) (h5 : ∀ s, s ≤ 9 → tl' s = tl s) (h6 : ∀ k, k < 80 → xT' k = xT k) (h7 : ∀ k, k < 80 → yT' k = yT k)
    (h : sn_SS G c K V S oa ca cap bl xln xcr xse xac xsl yln ycr ysn yse yac ysl xt yt L ty tl xT yT) : sn_SS G c K V S oa ca cap bl xln xcr xse xac xsl yln ycr ysn yse yac ysl xt' yt' L' ty' tl' xT' yT' := by
  obtain ⟨e1, e2, e3, e4, e5, e6, e7, e8⟩ := h
  refine ⟨e1, e2, e3, e4, fun k hk => by rw [h1 k hk, h2 k hk]; exact e5 k hk, fun k hk => by rw [h6 k hk, h7 k hk]; exact e6 k hk, fun s hs => by rw [h3 s hs, h4 s hs, h5 s hs]; exact e7 s hs, sn_SQc hP h3 e8⟩
theorem sn_HSc {G : Prop} {cap bl h h' : Nat} {xh xh' yh yh' : Nat → Int32} (hP : G → sn_PI c 0 st K V S oa ca sg dp pa) (hx : ∀ j, j < 159 → xh' (159 * h' + j) = xh (159 * h + j))
    (hy : ∀ j, j < 170 → yh' (170 * h' + j) = yh (170 * h + j)) (H : sn_HS G c K V S oa ca cap bl xh yh h) : sn_HS G c K V S oa ca cap bl xh' yh' h' := by
  unfold sn_HS
  have x0 : xh' (159 * h') = xh (159 * h) := hx 0 (by omega)
  rw [x0, hx 1 (by omega), hx 2 (by omega), hx 3 (by omega), hx 4 (by omega), hy 64 (by omega), hy 65 (by omega), hy 66 (by omega), hy 67 (by omega), hy 68 (by omega), hy 69 (by omega)]
  refine sn_SSc hP (fun k hk => ?_) (fun k hk => ?_) (fun k hk => ?_) (fun k hk => ?_) (fun k hk => ?_) (fun k hk => ?_) (fun k hk => ?_) H
  · show xh' (159 * h' + 5 + k) = xh (159 * h + 5 + k)
    rw [Nat.add_assoc, Nat.add_assoc]; exact hx _ (by omega)
  · exact hy _ (by omega)
  · show xh' (159 * h' + 69 + k) = xh (159 * h + 69 + k)
    rw [Nat.add_assoc, Nat.add_assoc]; exact hx _ (by omega)
  · show yh' (170 * h' + 70 + k) = yh (170 * h + 70 + k)
    rw [Nat.add_assoc, Nat.add_assoc]; exact hy _ (by omega)
  · show yh' (170 * h' + 80 + k) = yh (170 * h + 80 + k)
    rw [Nat.add_assoc, Nat.add_assoc]; exact hy _ (by omega)
  · show xh' (159 * h' + 79 + k) = xh (159 * h + 79 + k)
    rw [Nat.add_assoc, Nat.add_assoc]; exact hx _ (by omega)
  · show yh' (170 * h' + 90 + k) = yh (170 * h + 90 + k)
    rw [Nat.add_assoc, Nat.add_assoc]; exact hy _ (by omega)
theorem sn_SQg {G G' : Prop} {cap bl : Nat} {xln xcr xac xsl yse ysl : Int32} {L : Nat → Int32} (hG : G → G') (h : sn_SQ G c K V S oa ca cap bl xln xcr xac xsl yse ysl L) : sn_SQ G' c K V S oa ca cap bl xln xcr xac xsl yse ysl L := by
  obtain ⟨h1, h2, l, k, e1, e2, h3, h4, h5⟩ := h
  refine ⟨h1, h2, l, k, e1, e2, h3, h4, ?_⟩
  rcases h5 with h5 | ⟨h5, h6, h7, h8⟩
  · exact Or.inl h5
  · exact Or.inr ⟨h5, h6, hG h7, h8⟩
theorem sn_SSg {G G' : Prop} {cap bl : Nat} {xln xcr xse xac xsl yln ycr ysn yse yac ysl : Int32} {xt yt L ty tl xT yT : Nat → Int32} (hG : G → G') (h : sn_SS G c K V S oa ca cap bl xln xcr xse xac xsl yln ycr ysn yse yac ysl xt yt L ty tl xT yT) :
    sn_SS G' c K V S oa ca cap bl xln xcr xse xac xsl yln ycr ysn yse yac ysl xt yt L ty tl xT yT := by
  obtain ⟨e1, e2, e3, e4, e5, e6, e7, e8⟩ := h
  exact ⟨e1, e2, e3, e4, e5, e6, e7, sn_SQg hG e8⟩
theorem sn_HSg {G G' : Prop} {cap bl h : Nat} {xh yh : Nat → Int32} (hG : G → G') (H : sn_HS G c K V S oa ca cap bl xh yh h) : sn_HS G' c K V S oa ca cap bl xh yh h := sn_SSg hG H
/-- a snapshot written at d, those below kept (e = 0) or moved down by one (e = 159, 170) -/
def sn_xsv (xh xh' : Nat → Int32) (e d : Nat) (ln cr se ac sl : Int32) (t L T : Nat → Int32) : Prop :=
  (∀ j, j < 159 * d → xh' j = xh (e + j)) ∧ xh' (159 * d) = ln ∧ xh' (159 * d + 1) = cr ∧ xh' (159 * d + 2) = se ∧ xh' (159 * d + 3) = ac ∧ xh' (159 * d + 4) = sl ∧
  (∀ k, k < 64 → xh' (159 * d + 5 + k) = t k) ∧ (∀ k, k ≤ 9 → xh' (159 * d + 69 + k) = L k) ∧ (∀ k, k < 80 → xh' (159 * d + 79 + k) = T k)
def sn_ysv (yh yh' : Nat → Int32) (e d : Nat) (ln cr se ss ac sl : Int32) (t ty tl T : Nat → Int32) : Prop :=
  (∀ j, j < 170 * d → yh' j = yh (e + j)) ∧ (∀ k, k < 64 → yh' (170 * d + k) = t k) ∧ yh' (170 * d + 64) = ln ∧ yh' (170 * d + 65) = cr ∧ yh' (170 * d + 66) = se ∧ yh' (170 * d + 67) = ss ∧ yh' (170 * d + 68) = ac ∧ yh' (170 * d + 69) = sl ∧
  (∀ k, k ≤ 9 → yh' (170 * d + 70 + k) = ty k) ∧ (∀ k, k ≤ 9 → yh' (170 * d + 80 + k) = tl k) ∧ (∀ k, k < 80 → yh' (170 * d + 90 + k) = T k)
theorem sn_push {G : Prop} {cap bl dep e d : Nat} {xln xcr xse xac xsl yln ycr ysn yse yac ysl : Int32} {xt yt L ty tl xT yT xh xh' yh yh' : Nat → Int32} (hP : G → sn_PI c 0 st K V S oa ca sg dp pa)
    (he : d + e ≤ dep) (H : ∀ h, h < dep → sn_HS G c K V S oa ca cap bl xh yh h)
    (hs : sn_SS G c K V S oa ca cap bl xln xcr xse xac xsl yln ycr ysn yse yac ysl xt yt L ty tl xT yT)
    (hx : sn_xsv xh xh' (159 * e) d xln xcr xse xac xsl xt L xT) (hy : sn_ysv yh yh' (170 * e) d yln ycr ysn yse yac ysl yt ty tl yT) : ∀ h, h < d + 1 → sn_HS G c K V S oa ca cap bl xh' yh' h := by
  intro h hh
  by_cases z : h = d
  · obtain ⟨_, x0, x1, x2, x3, x4, x5, x6, x7⟩ := hx
    obtain ⟨_, y0, y1, y2, y3, y4, y5, y6, y7, y8, y9⟩ := hy
    rw [z]
    unfold sn_HS
    rw [x0, x1, x2, x3, x4, y1, y2, y3, y4, y5, y6]
    exact sn_SSc hP x5 y0 x6 y7 y8 x7 y9 hs
  · refine sn_HSc hP (fun j hj => ?_) (fun j hj => ?_) (H (e + h) (by omega))
    · rw [hx.1 _ (by omega)]; congr 1; omega
    · rw [hy.1 _ (by omega)]; congr 1; omega
end SNH
end
section
section SNI
/-! a mirror's text, mended in place -/
def sn_tm (k p m : Nat) (t : Nat → Int32) : Nat → Int32 := fun j => if p ≤ j ∧ j < p + m then sn_tc k (j - p) (t j) else t j
theorem sn_tm0 (k p : Nat) (t : Nat → Int32) : sn_tm k p 0 t = t := by
  funext j; unfold sn_tm; exact if_neg (by omega)
theorem sn_tmA (k p m : Nat) (t : Nat → Int32) : sn_tm k p m t (p + m) = t (p + m) := by
  unfold sn_tm; exact if_neg (by omega)
theorem sn_tmS (k p m : Nat) (t : Nat → Int32) : upd (sn_tm k p m t) (p + m) (sn_tc k m (t (p + m))) = sn_tm k p (m + 1) t := by
  funext j; unfold sn_tm upd
  by_cases z : j = p + m
  · rw [if_pos z, if_pos (by omega), z, show p + m - p = m by omega]
  · rw [if_neg z]
    dsimp only
    by_cases y : p ≤ j ∧ j < p + m
    · rw [if_pos y, if_pos (by omega)]
    · rw [if_neg y, if_neg (by omega)]
theorem sn_tmE (k p : Nat) (t : Nat → Int32) (l : List Int32) : sn_tm k p l.length (sn_wr t p l) = sn_wr t p (sn_tr k l) := by
  funext j; unfold sn_tm sn_wr
  rw [sn_trL]
  by_cases y : p ≤ j ∧ j < p + l.length
  · rw [if_pos y, if_pos y, if_pos y]
    unfold sn_tr
    rw [sn_lsA (by omega)]
  · rw [if_neg y, if_neg y, if_neg y]
theorem sn_tm7 (p : Nat) (t : Nat → Int32) (l : List Int32) (h : 1 ≤ l.length) : sn_tm 7 p 1 (sn_wr t p l) = sn_wr t p (sn_tr 7 l) := by
  rw [← sn_tmE]
  funext j; unfold sn_tm
  by_cases y : p ≤ j ∧ j < p + l.length
  · rw [if_pos y]
    by_cases z : p ≤ j ∧ j < p + 1
    · rw [if_pos z]
    · rw [if_neg z]
      unfold sn_tc
      rw [if_neg (by omega), if_neg (by omega), if_neg (by omega)]
  · rw [if_neg y, if_neg (by omega)]
theorem sn_tc4 (j : Nat) (x : Int32) : sn_tc 4 j x = x := by
  unfold sn_tc; rw [if_neg (by omega), if_neg (by omega), if_neg (by omega)]
theorem sn_tm4 (p m : Nat) (t : Nat → Int32) : sn_tm 4 p m t = t := by
  funext j; unfold sn_tm
  by_cases y : p ≤ j ∧ j < p + m
  · rw [if_pos y, sn_tc4]
  · rw [if_neg y]
end SNI
end
section
section SNJ
variable {f_capacity f_historyCap f_length f_caret f_selStart f_bodyLength f_undoDepth f_merge f_itemCount f_baseLength f_basePos f_activeStop f_selected f_draftCount f_depth f_readAt : Int32} {a_text a_body a_history a_itemKind a_itemValue a_openAt a_closeAt a_base a_typedLength a_typedText a_draftKind a_draftValue a_draftOpenAt a_draftCloseAt a_enclosing a_trialLength : Nat → Int32}
variable {post : SX → Prop}
theorem sn_xl_history_history (p q m : Nat) (hp : p + m ≤ 2544) (hq : q + m ≤ 2544) (hlt : q ≤ p) (h : post (f_capacity, f_historyCap, f_length, f_caret, f_selStart, f_bodyLength, f_undoDepth, f_merge, f_itemCount, f_baseLength, f_basePos, f_activeStop, f_selected, f_draftCount, f_depth, f_readAt, a_text, a_body, sn_cp a_history p a_history q m, a_itemKind, a_itemValue, a_openAt, a_closeAt, a_base, a_typedLength, a_typedText, a_draftKind, a_draftValue, a_draftOpenAt, a_draftCloseAt, a_enclosing, a_trialLength)) : ∀ d i n, i + d = m → d < n → wX_copy__history_history_3 post (nI p) (nI q) (nI m) f_capacity f_historyCap f_length f_caret f_selStart f_bodyLength f_undoDepth f_merge f_itemCount f_baseLength f_basePos f_activeStop f_selected f_draftCount f_depth f_readAt n (nI i) a_text a_body (sn_cp a_history p a_history q i) a_itemKind a_itemValue a_openAt a_closeAt a_base a_typedLength a_typedText a_draftKind a_draftValue a_draftOpenAt a_draftCloseAt a_enclosing a_trialLength := by
  intro d
  induction d with
  | zero =>
    intro i n hi hn
    obtain ⟨n, rfl⟩ : ∃ k, n = k + 1 := ⟨n - 1, by omega⟩
    obtain rfl : i = m := by omega
    exact br_t (nI_le (Nat.le_refl _) (by omega)) h
  | succ d ih =>
    intro i n hi hn
    obtain ⟨n, rfl⟩ : ∃ k, n = k + 1 := ⟨n - 1, by omega⟩
    refine br_f (nI_ge (by omega) (by omega)) ⟨?_, ?_, ?_⟩
    · rw [nI_add]; exact vp_in_nI (by omega) (by omega)
    · rw [nI_add]; exact vp_in_nI (by omega) (by omega)
    · intro y ey z ez
      rw [nI_add, nI_add, nI_clamp (by omega), nI_clamp (by omega), sn_cpO (Or.inr (by omega)), sn_cpS] at ey
      rw [ez, nI_1, ey]
      exact ih (i + 1) n (by omega) (by omega)
theorem sn_xc_history_history {x1 x3 x4 : Int32} (p q m : Nat) (e1 : x1 = nI p) (e3 : x3 = nI q) (e4 : x4 = nI m) (hp : p + m ≤ 2544) (hq : q + m ≤ 2544) (hlt : q ≤ p) (h : post (f_capacity, f_historyCap, f_length, f_caret, f_selStart, f_bodyLength, f_undoDepth, f_merge, f_itemCount, f_baseLength, f_basePos, f_activeStop, f_selected, f_draftCount, f_depth, f_readAt, a_text, a_body, sn_cp a_history p a_history q m, a_itemKind, a_itemValue, a_openAt, a_closeAt, a_base, a_typedLength, a_typedText, a_draftKind, a_draftValue, a_draftOpenAt, a_draftCloseAt, a_enclosing, a_trialLength)) : wpX_copy__history_history post (f_capacity, f_historyCap, f_length, f_caret, f_selStart, f_bodyLength, f_undoDepth, f_merge, f_itemCount, f_baseLength, f_basePos, f_activeStop, f_selected, f_draftCount, f_depth, f_readAt, a_text, a_body, a_history, a_itemKind, a_itemValue, a_openAt, a_closeAt, a_base, a_typedLength, a_typedText, a_draftKind, a_draftValue, a_draftOpenAt, a_draftCloseAt, a_enclosing, a_trialLength) x1 x3 x4 := by
  subst e1 e3 e4
  have w := sn_xl_history_history p q m hp hq hlt h m 0 (m + 1) (by omega) (by omega)
  rw [sn_cp0] at w
  exact ⟨m + 1, w⟩
theorem sn_xl_text_history (p q m : Nat) (hp : p + m ≤ 64) (hq : q + m ≤ 2544) (h : post (f_capacity, f_historyCap, f_length, f_caret, f_selStart, f_bodyLength, f_undoDepth, f_merge, f_itemCount, f_baseLength, f_basePos, f_activeStop, f_selected, f_draftCount, f_depth, f_readAt, a_text, a_body, sn_cp a_text p a_history q m, a_itemKind, a_itemValue, a_openAt, a_closeAt, a_base, a_typedLength, a_typedText, a_draftKind, a_draftValue, a_draftOpenAt, a_draftCloseAt, a_enclosing, a_trialLength)) : ∀ d i n, i + d = m → d < n → wX_copy__text_history_3 post (nI p) (nI q) (nI m) f_capacity f_historyCap f_length f_caret f_selStart f_bodyLength f_undoDepth f_merge f_itemCount f_baseLength f_basePos f_activeStop f_selected f_draftCount f_depth f_readAt n (nI i) a_text a_body (sn_cp a_text p a_history q i) a_itemKind a_itemValue a_openAt a_closeAt a_base a_typedLength a_typedText a_draftKind a_draftValue a_draftOpenAt a_draftCloseAt a_enclosing a_trialLength := by
  intro d
  induction d with
  | zero =>
    intro i n hi hn
    obtain ⟨n, rfl⟩ : ∃ k, n = k + 1 := ⟨n - 1, by omega⟩
    obtain rfl : i = m := by omega
    exact br_t (nI_le (Nat.le_refl _) (by omega)) h
  | succ d ih =>
    intro i n hi hn
    obtain ⟨n, rfl⟩ : ∃ k, n = k + 1 := ⟨n - 1, by omega⟩
    refine br_f (nI_ge (by omega) (by omega)) ⟨?_, ?_, ?_⟩
    · rw [nI_add]; exact vp_in_nI (by omega) (by omega)
    · rw [nI_add]; exact vp_in_nI (by omega) (by omega)
    · intro y ey z ez
      rw [nI_add, nI_add, nI_clamp (by omega), nI_clamp (by omega), sn_cpS] at ey
      rw [ez, nI_1, ey]
      exact ih (i + 1) n (by omega) (by omega)
theorem sn_xc_text_history {x1 x3 x4 : Int32} (p q m : Nat) (e1 : x1 = nI p) (e3 : x3 = nI q) (e4 : x4 = nI m) (hp : p + m ≤ 64) (hq : q + m ≤ 2544) (h : post (f_capacity, f_historyCap, f_length, f_caret, f_selStart, f_bodyLength, f_undoDepth, f_merge, f_itemCount, f_baseLength, f_basePos, f_activeStop, f_selected, f_draftCount, f_depth, f_readAt, a_text, a_body, sn_cp a_text p a_history q m, a_itemKind, a_itemValue, a_openAt, a_closeAt, a_base, a_typedLength, a_typedText, a_draftKind, a_draftValue, a_draftOpenAt, a_draftCloseAt, a_enclosing, a_trialLength)) : wpX_copy__text_history post (f_capacity, f_historyCap, f_length, f_caret, f_selStart, f_bodyLength, f_undoDepth, f_merge, f_itemCount, f_baseLength, f_basePos, f_activeStop, f_selected, f_draftCount, f_depth, f_readAt, a_text, a_body, a_history, a_itemKind, a_itemValue, a_openAt, a_closeAt, a_base, a_typedLength, a_typedText, a_draftKind, a_draftValue, a_draftOpenAt, a_draftCloseAt, a_enclosing, a_trialLength) x1 x3 x4 := by
  subst e1 e3 e4
  have w := sn_xl_text_history p q m hp hq h m 0 (m + 1) (by omega) (by omega)
  rw [sn_cp0] at w
  exact ⟨m + 1, w⟩
theorem sn_xl_typedLength_history (p q m : Nat) (hp : p + m ≤ 10) (hq : q + m ≤ 2544) (h : post (f_capacity, f_historyCap, f_length, f_caret, f_selStart, f_bodyLength, f_undoDepth, f_merge, f_itemCount, f_baseLength, f_basePos, f_activeStop, f_selected, f_draftCount, f_depth, f_readAt, a_text, a_body, sn_cp a_typedLength p a_history q m, a_itemKind, a_itemValue, a_openAt, a_closeAt, a_base, a_typedLength, a_typedText, a_draftKind, a_draftValue, a_draftOpenAt, a_draftCloseAt, a_enclosing, a_trialLength)) : ∀ d i n, i + d = m → d < n → wX_copy__typedLength_history_3 post (nI p) (nI q) (nI m) f_capacity f_historyCap f_length f_caret f_selStart f_bodyLength f_undoDepth f_merge f_itemCount f_baseLength f_basePos f_activeStop f_selected f_draftCount f_depth f_readAt n (nI i) a_text a_body (sn_cp a_typedLength p a_history q i) a_itemKind a_itemValue a_openAt a_closeAt a_base a_typedLength a_typedText a_draftKind a_draftValue a_draftOpenAt a_draftCloseAt a_enclosing a_trialLength := by
  intro d
  induction d with
  | zero =>
    intro i n hi hn
    obtain ⟨n, rfl⟩ : ∃ k, n = k + 1 := ⟨n - 1, by omega⟩
    obtain rfl : i = m := by omega
    exact br_t (nI_le (Nat.le_refl _) (by omega)) h
  | succ d ih =>
    intro i n hi hn
    obtain ⟨n, rfl⟩ : ∃ k, n = k + 1 := ⟨n - 1, by omega⟩
    refine br_f (nI_ge (by omega) (by omega)) ⟨?_, ?_, ?_⟩
    · rw [nI_add]; exact vp_in_nI (by omega) (by omega)
    · rw [nI_add]; exact vp_in_nI (by omega) (by omega)
    · intro y ey z ez
      rw [nI_add, nI_add, nI_clamp (by omega), nI_clamp (by omega), sn_cpS] at ey
      rw [ez, nI_1, ey]
      exact ih (i + 1) n (by omega) (by omega)
theorem sn_xc_typedLength_history {x1 x3 x4 : Int32} (p q m : Nat) (e1 : x1 = nI p) (e3 : x3 = nI q) (e4 : x4 = nI m) (hp : p + m ≤ 10) (hq : q + m ≤ 2544) (h : post (f_capacity, f_historyCap, f_length, f_caret, f_selStart, f_bodyLength, f_undoDepth, f_merge, f_itemCount, f_baseLength, f_basePos, f_activeStop, f_selected, f_draftCount, f_depth, f_readAt, a_text, a_body, sn_cp a_typedLength p a_history q m, a_itemKind, a_itemValue, a_openAt, a_closeAt, a_base, a_typedLength, a_typedText, a_draftKind, a_draftValue, a_draftOpenAt, a_draftCloseAt, a_enclosing, a_trialLength)) : wpX_copy__typedLength_history post (f_capacity, f_historyCap, f_length, f_caret, f_selStart, f_bodyLength, f_undoDepth, f_merge, f_itemCount, f_baseLength, f_basePos, f_activeStop, f_selected, f_draftCount, f_depth, f_readAt, a_text, a_body, a_history, a_itemKind, a_itemValue, a_openAt, a_closeAt, a_base, a_typedLength, a_typedText, a_draftKind, a_draftValue, a_draftOpenAt, a_draftCloseAt, a_enclosing, a_trialLength) x1 x3 x4 := by
  subst e1 e3 e4
  have w := sn_xl_typedLength_history p q m hp hq h m 0 (m + 1) (by omega) (by omega)
  rw [sn_cp0] at w
  exact ⟨m + 1, w⟩
theorem sn_xl_typedText_history (p q m : Nat) (hp : p + m ≤ 80) (hq : q + m ≤ 2544) (h : post (f_capacity, f_historyCap, f_length, f_caret, f_selStart, f_bodyLength, f_undoDepth, f_merge, f_itemCount, f_baseLength, f_basePos, f_activeStop, f_selected, f_draftCount, f_depth, f_readAt, a_text, a_body, sn_cp a_typedText p a_history q m, a_itemKind, a_itemValue, a_openAt, a_closeAt, a_base, a_typedLength, a_typedText, a_draftKind, a_draftValue, a_draftOpenAt, a_draftCloseAt, a_enclosing, a_trialLength)) : ∀ d i n, i + d = m → d < n → wX_copy__typedText_history_3 post (nI p) (nI q) (nI m) f_capacity f_historyCap f_length f_caret f_selStart f_bodyLength f_undoDepth f_merge f_itemCount f_baseLength f_basePos f_activeStop f_selected f_draftCount f_depth f_readAt n (nI i) a_text a_body (sn_cp a_typedText p a_history q i) a_itemKind a_itemValue a_openAt a_closeAt a_base a_typedLength a_typedText a_draftKind a_draftValue a_draftOpenAt a_draftCloseAt a_enclosing a_trialLength := by
  intro d
  induction d with
  | zero =>
    intro i n hi hn
    obtain ⟨n, rfl⟩ : ∃ k, n = k + 1 := ⟨n - 1, by omega⟩
    obtain rfl : i = m := by omega
    exact br_t (nI_le (Nat.le_refl _) (by omega)) h
  | succ d ih =>
    intro i n hi hn
    obtain ⟨n, rfl⟩ : ∃ k, n = k + 1 := ⟨n - 1, by omega⟩
    refine br_f (nI_ge (by omega) (by omega)) ⟨?_, ?_, ?_⟩
    · rw [nI_add]; exact vp_in_nI (by omega) (by omega)
    · rw [nI_add]; exact vp_in_nI (by omega) (by omega)
    · intro y ey z ez
      rw [nI_add, nI_add, nI_clamp (by omega), nI_clamp (by omega), sn_cpS] at ey
      rw [ez, nI_1, ey]
      exact ih (i + 1) n (by omega) (by omega)
theorem sn_xc_typedText_history {x1 x3 x4 : Int32} (p q m : Nat) (e1 : x1 = nI p) (e3 : x3 = nI q) (e4 : x4 = nI m) (hp : p + m ≤ 80) (hq : q + m ≤ 2544) (h : post (f_capacity, f_historyCap, f_length, f_caret, f_selStart, f_bodyLength, f_undoDepth, f_merge, f_itemCount, f_baseLength, f_basePos, f_activeStop, f_selected, f_draftCount, f_depth, f_readAt, a_text, a_body, sn_cp a_typedText p a_history q m, a_itemKind, a_itemValue, a_openAt, a_closeAt, a_base, a_typedLength, a_typedText, a_draftKind, a_draftValue, a_draftOpenAt, a_draftCloseAt, a_enclosing, a_trialLength)) : wpX_copy__typedText_history post (f_capacity, f_historyCap, f_length, f_caret, f_selStart, f_bodyLength, f_undoDepth, f_merge, f_itemCount, f_baseLength, f_basePos, f_activeStop, f_selected, f_draftCount, f_depth, f_readAt, a_text, a_body, a_history, a_itemKind, a_itemValue, a_openAt, a_closeAt, a_base, a_typedLength, a_typedText, a_draftKind, a_draftValue, a_draftOpenAt, a_draftCloseAt, a_enclosing, a_trialLength) x1 x3 x4 := by
  subst e1 e3 e4
  have w := sn_xl_typedText_history p q m hp hq h m 0 (m + 1) (by omega) (by omega)
  rw [sn_cp0] at w
  exact ⟨m + 1, w⟩
theorem sn_xl_draftKind_itemKind (p q m : Nat) (hp : p + m ≤ 65) (hq : q + m ≤ 65) (h : post (f_capacity, f_historyCap, f_length, f_caret, f_selStart, f_bodyLength, f_undoDepth, f_merge, f_itemCount, f_baseLength, f_basePos, f_activeStop, f_selected, f_draftCount, f_depth, f_readAt, a_text, a_body, a_history, sn_cp a_draftKind p a_itemKind q m, a_itemValue, a_openAt, a_closeAt, a_base, a_typedLength, a_typedText, a_draftKind, a_draftValue, a_draftOpenAt, a_draftCloseAt, a_enclosing, a_trialLength)) : ∀ d i n, i + d = m → d < n → wX_copy__draftKind_itemKind_3 post (nI p) (nI q) (nI m) f_capacity f_historyCap f_length f_caret f_selStart f_bodyLength f_undoDepth f_merge f_itemCount f_baseLength f_basePos f_activeStop f_selected f_draftCount f_depth f_readAt n (nI i) a_text a_body a_history (sn_cp a_draftKind p a_itemKind q i) a_itemValue a_openAt a_closeAt a_base a_typedLength a_typedText a_draftKind a_draftValue a_draftOpenAt a_draftCloseAt a_enclosing a_trialLength := by
  intro d
  induction d with
  | zero =>
    intro i n hi hn
    obtain ⟨n, rfl⟩ : ∃ k, n = k + 1 := ⟨n - 1, by omega⟩
    obtain rfl : i = m := by omega
    exact br_t (nI_le (Nat.le_refl _) (by omega)) h
  | succ d ih =>
    intro i n hi hn
    obtain ⟨n, rfl⟩ : ∃ k, n = k + 1 := ⟨n - 1, by omega⟩
    refine br_f (nI_ge (by omega) (by omega)) ⟨?_, ?_, ?_⟩
    · rw [nI_add]; exact vp_in_nI (by omega) (by omega)
    · rw [nI_add]; exact vp_in_nI (by omega) (by omega)
    · intro y ey z ez
      rw [nI_add, nI_add, nI_clamp (by omega), nI_clamp (by omega), sn_cpS] at ey
      rw [ez, nI_1, ey]
      exact ih (i + 1) n (by omega) (by omega)
theorem sn_xc_draftKind_itemKind {x1 x3 x4 : Int32} (p q m : Nat) (e1 : x1 = nI p) (e3 : x3 = nI q) (e4 : x4 = nI m) (hp : p + m ≤ 65) (hq : q + m ≤ 65) (h : post (f_capacity, f_historyCap, f_length, f_caret, f_selStart, f_bodyLength, f_undoDepth, f_merge, f_itemCount, f_baseLength, f_basePos, f_activeStop, f_selected, f_draftCount, f_depth, f_readAt, a_text, a_body, a_history, sn_cp a_draftKind p a_itemKind q m, a_itemValue, a_openAt, a_closeAt, a_base, a_typedLength, a_typedText, a_draftKind, a_draftValue, a_draftOpenAt, a_draftCloseAt, a_enclosing, a_trialLength)) : wpX_copy__draftKind_itemKind post (f_capacity, f_historyCap, f_length, f_caret, f_selStart, f_bodyLength, f_undoDepth, f_merge, f_itemCount, f_baseLength, f_basePos, f_activeStop, f_selected, f_draftCount, f_depth, f_readAt, a_text, a_body, a_history, a_itemKind, a_itemValue, a_openAt, a_closeAt, a_base, a_typedLength, a_typedText, a_draftKind, a_draftValue, a_draftOpenAt, a_draftCloseAt, a_enclosing, a_trialLength) x1 x3 x4 := by
  subst e1 e3 e4
  have w := sn_xl_draftKind_itemKind p q m hp hq h m 0 (m + 1) (by omega) (by omega)
  rw [sn_cp0] at w
  exact ⟨m + 1, w⟩
theorem sn_xl_draftValue_itemValue (p q m : Nat) (hp : p + m ≤ 65) (hq : q + m ≤ 65) (h : post (f_capacity, f_historyCap, f_length, f_caret, f_selStart, f_bodyLength, f_undoDepth, f_merge, f_itemCount, f_baseLength, f_basePos, f_activeStop, f_selected, f_draftCount, f_depth, f_readAt, a_text, a_body, a_history, a_itemKind, sn_cp a_draftValue p a_itemValue q m, a_openAt, a_closeAt, a_base, a_typedLength, a_typedText, a_draftKind, a_draftValue, a_draftOpenAt, a_draftCloseAt, a_enclosing, a_trialLength)) : ∀ d i n, i + d = m → d < n → wX_copy__draftValue_itemValue_3 post (nI p) (nI q) (nI m) f_capacity f_historyCap f_length f_caret f_selStart f_bodyLength f_undoDepth f_merge f_itemCount f_baseLength f_basePos f_activeStop f_selected f_draftCount f_depth f_readAt n (nI i) a_text a_body a_history a_itemKind (sn_cp a_draftValue p a_itemValue q i) a_openAt a_closeAt a_base a_typedLength a_typedText a_draftKind a_draftValue a_draftOpenAt a_draftCloseAt a_enclosing a_trialLength := by
  intro d
  induction d with
  | zero =>
    intro i n hi hn
    obtain ⟨n, rfl⟩ : ∃ k, n = k + 1 := ⟨n - 1, by omega⟩
    obtain rfl : i = m := by omega
    exact br_t (nI_le (Nat.le_refl _) (by omega)) h
  | succ d ih =>
    intro i n hi hn
    obtain ⟨n, rfl⟩ : ∃ k, n = k + 1 := ⟨n - 1, by omega⟩
    refine br_f (nI_ge (by omega) (by omega)) ⟨?_, ?_, ?_⟩
    · rw [nI_add]; exact vp_in_nI (by omega) (by omega)
    · rw [nI_add]; exact vp_in_nI (by omega) (by omega)
    · intro y ey z ez
      rw [nI_add, nI_add, nI_clamp (by omega), nI_clamp (by omega), sn_cpS] at ey
      rw [ez, nI_1, ey]
      exact ih (i + 1) n (by omega) (by omega)
theorem sn_xc_draftValue_itemValue {x1 x3 x4 : Int32} (p q m : Nat) (e1 : x1 = nI p) (e3 : x3 = nI q) (e4 : x4 = nI m) (hp : p + m ≤ 65) (hq : q + m ≤ 65) (h : post (f_capacity, f_historyCap, f_length, f_caret, f_selStart, f_bodyLength, f_undoDepth, f_merge, f_itemCount, f_baseLength, f_basePos, f_activeStop, f_selected, f_draftCount, f_depth, f_readAt, a_text, a_body, a_history, a_itemKind, sn_cp a_draftValue p a_itemValue q m, a_openAt, a_closeAt, a_base, a_typedLength, a_typedText, a_draftKind, a_draftValue, a_draftOpenAt, a_draftCloseAt, a_enclosing, a_trialLength)) : wpX_copy__draftValue_itemValue post (f_capacity, f_historyCap, f_length, f_caret, f_selStart, f_bodyLength, f_undoDepth, f_merge, f_itemCount, f_baseLength, f_basePos, f_activeStop, f_selected, f_draftCount, f_depth, f_readAt, a_text, a_body, a_history, a_itemKind, a_itemValue, a_openAt, a_closeAt, a_base, a_typedLength, a_typedText, a_draftKind, a_draftValue, a_draftOpenAt, a_draftCloseAt, a_enclosing, a_trialLength) x1 x3 x4 := by
  subst e1 e3 e4
  have w := sn_xl_draftValue_itemValue p q m hp hq h m 0 (m + 1) (by omega) (by omega)
  rw [sn_cp0] at w
  exact ⟨m + 1, w⟩
theorem sn_xl_draftOpenAt_openAt (p q m : Nat) (hp : p + m ≤ 10) (hq : q + m ≤ 10) (h : post (f_capacity, f_historyCap, f_length, f_caret, f_selStart, f_bodyLength, f_undoDepth, f_merge, f_itemCount, f_baseLength, f_basePos, f_activeStop, f_selected, f_draftCount, f_depth, f_readAt, a_text, a_body, a_history, a_itemKind, a_itemValue, sn_cp a_draftOpenAt p a_openAt q m, a_closeAt, a_base, a_typedLength, a_typedText, a_draftKind, a_draftValue, a_draftOpenAt, a_draftCloseAt, a_enclosing, a_trialLength)) : ∀ d i n, i + d = m → d < n → wX_copy__draftOpenAt_openAt_3 post (nI p) (nI q) (nI m) f_capacity f_historyCap f_length f_caret f_selStart f_bodyLength f_undoDepth f_merge f_itemCount f_baseLength f_basePos f_activeStop f_selected f_draftCount f_depth f_readAt n (nI i) a_text a_body a_history a_itemKind a_itemValue (sn_cp a_draftOpenAt p a_openAt q i) a_closeAt a_base a_typedLength a_typedText a_draftKind a_draftValue a_draftOpenAt a_draftCloseAt a_enclosing a_trialLength := by
  intro d
  induction d with
  | zero =>
    intro i n hi hn
    obtain ⟨n, rfl⟩ : ∃ k, n = k + 1 := ⟨n - 1, by omega⟩
    obtain rfl : i = m := by omega
    exact br_t (nI_le (Nat.le_refl _) (by omega)) h
  | succ d ih =>
    intro i n hi hn
    obtain ⟨n, rfl⟩ : ∃ k, n = k + 1 := ⟨n - 1, by omega⟩
    refine br_f (nI_ge (by omega) (by omega)) ⟨?_, ?_, ?_⟩
    · rw [nI_add]; exact vp_in_nI (by omega) (by omega)
    · rw [nI_add]; exact vp_in_nI (by omega) (by omega)
    · intro y ey z ez
      rw [nI_add, nI_add, nI_clamp (by omega), nI_clamp (by omega), sn_cpS] at ey
      rw [ez, nI_1, ey]
      exact ih (i + 1) n (by omega) (by omega)
theorem sn_xc_draftOpenAt_openAt {x1 x3 x4 : Int32} (p q m : Nat) (e1 : x1 = nI p) (e3 : x3 = nI q) (e4 : x4 = nI m) (hp : p + m ≤ 10) (hq : q + m ≤ 10) (h : post (f_capacity, f_historyCap, f_length, f_caret, f_selStart, f_bodyLength, f_undoDepth, f_merge, f_itemCount, f_baseLength, f_basePos, f_activeStop, f_selected, f_draftCount, f_depth, f_readAt, a_text, a_body, a_history, a_itemKind, a_itemValue, sn_cp a_draftOpenAt p a_openAt q m, a_closeAt, a_base, a_typedLength, a_typedText, a_draftKind, a_draftValue, a_draftOpenAt, a_draftCloseAt, a_enclosing, a_trialLength)) : wpX_copy__draftOpenAt_openAt post (f_capacity, f_historyCap, f_length, f_caret, f_selStart, f_bodyLength, f_undoDepth, f_merge, f_itemCount, f_baseLength, f_basePos, f_activeStop, f_selected, f_draftCount, f_depth, f_readAt, a_text, a_body, a_history, a_itemKind, a_itemValue, a_openAt, a_closeAt, a_base, a_typedLength, a_typedText, a_draftKind, a_draftValue, a_draftOpenAt, a_draftCloseAt, a_enclosing, a_trialLength) x1 x3 x4 := by
  subst e1 e3 e4
  have w := sn_xl_draftOpenAt_openAt p q m hp hq h m 0 (m + 1) (by omega) (by omega)
  rw [sn_cp0] at w
  exact ⟨m + 1, w⟩
theorem sn_xl_draftCloseAt_closeAt (p q m : Nat) (hp : p + m ≤ 10) (hq : q + m ≤ 10) (h : post (f_capacity, f_historyCap, f_length, f_caret, f_selStart, f_bodyLength, f_undoDepth, f_merge, f_itemCount, f_baseLength, f_basePos, f_activeStop, f_selected, f_draftCount, f_depth, f_readAt, a_text, a_body, a_history, a_itemKind, a_itemValue, a_openAt, sn_cp a_draftCloseAt p a_closeAt q m, a_base, a_typedLength, a_typedText, a_draftKind, a_draftValue, a_draftOpenAt, a_draftCloseAt, a_enclosing, a_trialLength)) : ∀ d i n, i + d = m → d < n → wX_copy__draftCloseAt_closeAt_3 post (nI p) (nI q) (nI m) f_capacity f_historyCap f_length f_caret f_selStart f_bodyLength f_undoDepth f_merge f_itemCount f_baseLength f_basePos f_activeStop f_selected f_draftCount f_depth f_readAt n (nI i) a_text a_body a_history a_itemKind a_itemValue a_openAt (sn_cp a_draftCloseAt p a_closeAt q i) a_base a_typedLength a_typedText a_draftKind a_draftValue a_draftOpenAt a_draftCloseAt a_enclosing a_trialLength := by
  intro d
  induction d with
  | zero =>
    intro i n hi hn
    obtain ⟨n, rfl⟩ : ∃ k, n = k + 1 := ⟨n - 1, by omega⟩
    obtain rfl : i = m := by omega
    exact br_t (nI_le (Nat.le_refl _) (by omega)) h
  | succ d ih =>
    intro i n hi hn
    obtain ⟨n, rfl⟩ : ∃ k, n = k + 1 := ⟨n - 1, by omega⟩
    refine br_f (nI_ge (by omega) (by omega)) ⟨?_, ?_, ?_⟩
    · rw [nI_add]; exact vp_in_nI (by omega) (by omega)
    · rw [nI_add]; exact vp_in_nI (by omega) (by omega)
    · intro y ey z ez
      rw [nI_add, nI_add, nI_clamp (by omega), nI_clamp (by omega), sn_cpS] at ey
      rw [ez, nI_1, ey]
      exact ih (i + 1) n (by omega) (by omega)
theorem sn_xc_draftCloseAt_closeAt {x1 x3 x4 : Int32} (p q m : Nat) (e1 : x1 = nI p) (e3 : x3 = nI q) (e4 : x4 = nI m) (hp : p + m ≤ 10) (hq : q + m ≤ 10) (h : post (f_capacity, f_historyCap, f_length, f_caret, f_selStart, f_bodyLength, f_undoDepth, f_merge, f_itemCount, f_baseLength, f_basePos, f_activeStop, f_selected, f_draftCount, f_depth, f_readAt, a_text, a_body, a_history, a_itemKind, a_itemValue, a_openAt, sn_cp a_draftCloseAt p a_closeAt q m, a_base, a_typedLength, a_typedText, a_draftKind, a_draftValue, a_draftOpenAt, a_draftCloseAt, a_enclosing, a_trialLength)) : wpX_copy__draftCloseAt_closeAt post (f_capacity, f_historyCap, f_length, f_caret, f_selStart, f_bodyLength, f_undoDepth, f_merge, f_itemCount, f_baseLength, f_basePos, f_activeStop, f_selected, f_draftCount, f_depth, f_readAt, a_text, a_body, a_history, a_itemKind, a_itemValue, a_openAt, a_closeAt, a_base, a_typedLength, a_typedText, a_draftKind, a_draftValue, a_draftOpenAt, a_draftCloseAt, a_enclosing, a_trialLength) x1 x3 x4 := by
  subst e1 e3 e4
  have w := sn_xl_draftCloseAt_closeAt p q m hp hq h m 0 (m + 1) (by omega) (by omega)
  rw [sn_cp0] at w
  exact ⟨m + 1, w⟩
theorem sn_xl_text_base (p q m : Nat) (hp : p + m ≤ 64) (hq : q + m ≤ 64) (h : post (f_capacity, f_historyCap, f_length, f_caret, f_selStart, f_bodyLength, f_undoDepth, f_merge, f_itemCount, f_baseLength, f_basePos, f_activeStop, f_selected, f_draftCount, f_depth, f_readAt, a_text, a_body, a_history, a_itemKind, a_itemValue, a_openAt, a_closeAt, sn_cp a_text p a_base q m, a_typedLength, a_typedText, a_draftKind, a_draftValue, a_draftOpenAt, a_draftCloseAt, a_enclosing, a_trialLength)) : ∀ d i n, i + d = m → d < n → wX_copy__text_base_3 post (nI p) (nI q) (nI m) f_capacity f_historyCap f_length f_caret f_selStart f_bodyLength f_undoDepth f_merge f_itemCount f_baseLength f_basePos f_activeStop f_selected f_draftCount f_depth f_readAt n (nI i) a_text a_body a_history a_itemKind a_itemValue a_openAt a_closeAt (sn_cp a_text p a_base q i) a_typedLength a_typedText a_draftKind a_draftValue a_draftOpenAt a_draftCloseAt a_enclosing a_trialLength := by
  intro d
  induction d with
  | zero =>
    intro i n hi hn
    obtain ⟨n, rfl⟩ : ∃ k, n = k + 1 := ⟨n - 1, by omega⟩
    obtain rfl : i = m := by omega
    exact br_t (nI_le (Nat.le_refl _) (by omega)) h
  | succ d ih =>
    intro i n hi hn
    obtain ⟨n, rfl⟩ : ∃ k, n = k + 1 := ⟨n - 1, by omega⟩
    refine br_f (nI_ge (by omega) (by omega)) ⟨?_, ?_, ?_⟩
    · rw [nI_add]; exact vp_in_nI (by omega) (by omega)
    · rw [nI_add]; exact vp_in_nI (by omega) (by omega)
    · intro y ey z ez
      rw [nI_add, nI_add, nI_clamp (by omega), nI_clamp (by omega), sn_cpS] at ey
      rw [ez, nI_1, ey]
      exact ih (i + 1) n (by omega) (by omega)
theorem sn_xc_text_base {x1 x3 x4 : Int32} (p q m : Nat) (e1 : x1 = nI p) (e3 : x3 = nI q) (e4 : x4 = nI m) (hp : p + m ≤ 64) (hq : q + m ≤ 64) (h : post (f_capacity, f_historyCap, f_length, f_caret, f_selStart, f_bodyLength, f_undoDepth, f_merge, f_itemCount, f_baseLength, f_basePos, f_activeStop, f_selected, f_draftCount, f_depth, f_readAt, a_text, a_body, a_history, a_itemKind, a_itemValue, a_openAt, a_closeAt, sn_cp a_text p a_base q m, a_typedLength, a_typedText, a_draftKind, a_draftValue, a_draftOpenAt, a_draftCloseAt, a_enclosing, a_trialLength)) : wpX_copy__text_base post (f_capacity, f_historyCap, f_length, f_caret, f_selStart, f_bodyLength, f_undoDepth, f_merge, f_itemCount, f_baseLength, f_basePos, f_activeStop, f_selected, f_draftCount, f_depth, f_readAt, a_text, a_body, a_history, a_itemKind, a_itemValue, a_openAt, a_closeAt, a_base, a_typedLength, a_typedText, a_draftKind, a_draftValue, a_draftOpenAt, a_draftCloseAt, a_enclosing, a_trialLength) x1 x3 x4 := by
  subst e1 e3 e4
  have w := sn_xl_text_base p q m hp hq h m 0 (m + 1) (by omega) (by omega)
  rw [sn_cp0] at w
  exact ⟨m + 1, w⟩
theorem sn_xl_typedLength_trialLength (p q m : Nat) (hp : p + m ≤ 10) (hq : q + m ≤ 10) (h : post (f_capacity, f_historyCap, f_length, f_caret, f_selStart, f_bodyLength, f_undoDepth, f_merge, f_itemCount, f_baseLength, f_basePos, f_activeStop, f_selected, f_draftCount, f_depth, f_readAt, a_text, a_body, a_history, a_itemKind, a_itemValue, a_openAt, a_closeAt, a_base, a_typedLength, a_typedText, a_draftKind, a_draftValue, a_draftOpenAt, a_draftCloseAt, a_enclosing, sn_cp a_typedLength p a_trialLength q m)) : ∀ d i n, i + d = m → d < n → wX_copy__typedLength_trialLength_3 post (nI p) (nI q) (nI m) f_capacity f_historyCap f_length f_caret f_selStart f_bodyLength f_undoDepth f_merge f_itemCount f_baseLength f_basePos f_activeStop f_selected f_draftCount f_depth f_readAt n (nI i) a_text a_body a_history a_itemKind a_itemValue a_openAt a_closeAt a_base a_typedLength a_typedText a_draftKind a_draftValue a_draftOpenAt a_draftCloseAt a_enclosing (sn_cp a_typedLength p a_trialLength q i) := by
  intro d
  induction d with
  | zero =>
    intro i n hi hn
    obtain ⟨n, rfl⟩ : ∃ k, n = k + 1 := ⟨n - 1, by omega⟩
    obtain rfl : i = m := by omega
    exact br_t (nI_le (Nat.le_refl _) (by omega)) h
  | succ d ih =>
    intro i n hi hn
    obtain ⟨n, rfl⟩ : ∃ k, n = k + 1 := ⟨n - 1, by omega⟩
    refine br_f (nI_ge (by omega) (by omega)) ⟨?_, ?_, ?_⟩
    · rw [nI_add]; exact vp_in_nI (by omega) (by omega)
    · rw [nI_add]; exact vp_in_nI (by omega) (by omega)
    · intro y ey z ez
      rw [nI_add, nI_add, nI_clamp (by omega), nI_clamp (by omega), sn_cpS] at ey
      rw [ez, nI_1, ey]
      exact ih (i + 1) n (by omega) (by omega)
theorem sn_xc_typedLength_trialLength {x1 x3 x4 : Int32} (p q m : Nat) (e1 : x1 = nI p) (e3 : x3 = nI q) (e4 : x4 = nI m) (hp : p + m ≤ 10) (hq : q + m ≤ 10) (h : post (f_capacity, f_historyCap, f_length, f_caret, f_selStart, f_bodyLength, f_undoDepth, f_merge, f_itemCount, f_baseLength, f_basePos, f_activeStop, f_selected, f_draftCount, f_depth, f_readAt, a_text, a_body, a_history, a_itemKind, a_itemValue, a_openAt, a_closeAt, a_base, a_typedLength, a_typedText, a_draftKind, a_draftValue, a_draftOpenAt, a_draftCloseAt, a_enclosing, sn_cp a_typedLength p a_trialLength q m)) : wpX_copy__typedLength_trialLength post (f_capacity, f_historyCap, f_length, f_caret, f_selStart, f_bodyLength, f_undoDepth, f_merge, f_itemCount, f_baseLength, f_basePos, f_activeStop, f_selected, f_draftCount, f_depth, f_readAt, a_text, a_body, a_history, a_itemKind, a_itemValue, a_openAt, a_closeAt, a_base, a_typedLength, a_typedText, a_draftKind, a_draftValue, a_draftOpenAt, a_draftCloseAt, a_enclosing, a_trialLength) x1 x3 x4 := by
  subst e1 e3 e4
  have w := sn_xl_typedLength_trialLength p q m hp hq h m 0 (m + 1) (by omega) (by omega)
  rw [sn_cp0] at w
  exact ⟨m + 1, w⟩
theorem sn_xl_text_text (p q m : Nat) (hp : p + m ≤ 64) (hq : q + m ≤ 64) (hlt : q ≤ p) (h : post (f_capacity, f_historyCap, f_length, f_caret, f_selStart, f_bodyLength, f_undoDepth, f_merge, f_itemCount, f_baseLength, f_basePos, f_activeStop, f_selected, f_draftCount, f_depth, f_readAt, sn_cp a_text p a_text q m, a_body, a_history, a_itemKind, a_itemValue, a_openAt, a_closeAt, a_base, a_typedLength, a_typedText, a_draftKind, a_draftValue, a_draftOpenAt, a_draftCloseAt, a_enclosing, a_trialLength)) : ∀ d i n, i + d = m → d < n → wX_copy__text_text_3 post (nI p) (nI q) (nI m) f_capacity f_historyCap f_length f_caret f_selStart f_bodyLength f_undoDepth f_merge f_itemCount f_baseLength f_basePos f_activeStop f_selected f_draftCount f_depth f_readAt n (nI i) (sn_cp a_text p a_text q i) a_body a_history a_itemKind a_itemValue a_openAt a_closeAt a_base a_typedLength a_typedText a_draftKind a_draftValue a_draftOpenAt a_draftCloseAt a_enclosing a_trialLength := by
  intro d
  induction d with
  | zero =>
    intro i n hi hn
    obtain ⟨n, rfl⟩ : ∃ k, n = k + 1 := ⟨n - 1, by omega⟩
    obtain rfl : i = m := by omega
    exact br_t (nI_le (Nat.le_refl _) (by omega)) h
  | succ d ih =>
    intro i n hi hn
    obtain ⟨n, rfl⟩ : ∃ k, n = k + 1 := ⟨n - 1, by omega⟩
    refine br_f (nI_ge (by omega) (by omega)) ⟨?_, ?_, ?_⟩
    · rw [nI_add]; exact vp_in_nI (by omega) (by omega)
    · rw [nI_add]; exact vp_in_nI (by omega) (by omega)
    · intro y ey z ez
      rw [nI_add, nI_add, nI_clamp (by omega), nI_clamp (by omega), sn_cpO (Or.inr (by omega)), sn_cpS] at ey
      rw [ez, nI_1, ey]
      exact ih (i + 1) n (by omega) (by omega)
theorem sn_xc_text_text {x1 x3 x4 : Int32} (p q m : Nat) (e1 : x1 = nI p) (e3 : x3 = nI q) (e4 : x4 = nI m) (hp : p + m ≤ 64) (hq : q + m ≤ 64) (hlt : q ≤ p) (h : post (f_capacity, f_historyCap, f_length, f_caret, f_selStart, f_bodyLength, f_undoDepth, f_merge, f_itemCount, f_baseLength, f_basePos, f_activeStop, f_selected, f_draftCount, f_depth, f_readAt, sn_cp a_text p a_text q m, a_body, a_history, a_itemKind, a_itemValue, a_openAt, a_closeAt, a_base, a_typedLength, a_typedText, a_draftKind, a_draftValue, a_draftOpenAt, a_draftCloseAt, a_enclosing, a_trialLength)) : wpX_copy__text_text post (f_capacity, f_historyCap, f_length, f_caret, f_selStart, f_bodyLength, f_undoDepth, f_merge, f_itemCount, f_baseLength, f_basePos, f_activeStop, f_selected, f_draftCount, f_depth, f_readAt, a_text, a_body, a_history, a_itemKind, a_itemValue, a_openAt, a_closeAt, a_base, a_typedLength, a_typedText, a_draftKind, a_draftValue, a_draftOpenAt, a_draftCloseAt, a_enclosing, a_trialLength) x1 x3 x4 := by
  subst e1 e3 e4
  have w := sn_xl_text_text p q m hp hq hlt h m 0 (m + 1) (by omega) (by omega)
  rw [sn_cp0] at w
  exact ⟨m + 1, w⟩
theorem sn_xl_history_text (p q m : Nat) (hp : p + m ≤ 2544) (hq : q + m ≤ 64) (h : post (f_capacity, f_historyCap, f_length, f_caret, f_selStart, f_bodyLength, f_undoDepth, f_merge, f_itemCount, f_baseLength, f_basePos, f_activeStop, f_selected, f_draftCount, f_depth, f_readAt, sn_cp a_history p a_text q m, a_body, a_history, a_itemKind, a_itemValue, a_openAt, a_closeAt, a_base, a_typedLength, a_typedText, a_draftKind, a_draftValue, a_draftOpenAt, a_draftCloseAt, a_enclosing, a_trialLength)) : ∀ d i n, i + d = m → d < n → wX_copy__history_text_3 post (nI p) (nI q) (nI m) f_capacity f_historyCap f_length f_caret f_selStart f_bodyLength f_undoDepth f_merge f_itemCount f_baseLength f_basePos f_activeStop f_selected f_draftCount f_depth f_readAt n (nI i) (sn_cp a_history p a_text q i) a_body a_history a_itemKind a_itemValue a_openAt a_closeAt a_base a_typedLength a_typedText a_draftKind a_draftValue a_draftOpenAt a_draftCloseAt a_enclosing a_trialLength := by
  intro d
  induction d with
  | zero =>
    intro i n hi hn
    obtain ⟨n, rfl⟩ : ∃ k, n = k + 1 := ⟨n - 1, by omega⟩
    obtain rfl : i = m := by omega
    exact br_t (nI_le (Nat.le_refl _) (by omega)) h
  | succ d ih =>
    intro i n hi hn
    obtain ⟨n, rfl⟩ : ∃ k, n = k + 1 := ⟨n - 1, by omega⟩
    refine br_f (nI_ge (by omega) (by omega)) ⟨?_, ?_, ?_⟩
    · rw [nI_add]; exact vp_in_nI (by omega) (by omega)
    · rw [nI_add]; exact vp_in_nI (by omega) (by omega)
    · intro y ey z ez
      rw [nI_add, nI_add, nI_clamp (by omega), nI_clamp (by omega), sn_cpS] at ey
      rw [ez, nI_1, ey]
      exact ih (i + 1) n (by omega) (by omega)
theorem sn_xc_history_text {x1 x3 x4 : Int32} (p q m : Nat) (e1 : x1 = nI p) (e3 : x3 = nI q) (e4 : x4 = nI m) (hp : p + m ≤ 2544) (hq : q + m ≤ 64) (h : post (f_capacity, f_historyCap, f_length, f_caret, f_selStart, f_bodyLength, f_undoDepth, f_merge, f_itemCount, f_baseLength, f_basePos, f_activeStop, f_selected, f_draftCount, f_depth, f_readAt, sn_cp a_history p a_text q m, a_body, a_history, a_itemKind, a_itemValue, a_openAt, a_closeAt, a_base, a_typedLength, a_typedText, a_draftKind, a_draftValue, a_draftOpenAt, a_draftCloseAt, a_enclosing, a_trialLength)) : wpX_copy__history_text post (f_capacity, f_historyCap, f_length, f_caret, f_selStart, f_bodyLength, f_undoDepth, f_merge, f_itemCount, f_baseLength, f_basePos, f_activeStop, f_selected, f_draftCount, f_depth, f_readAt, a_text, a_body, a_history, a_itemKind, a_itemValue, a_openAt, a_closeAt, a_base, a_typedLength, a_typedText, a_draftKind, a_draftValue, a_draftOpenAt, a_draftCloseAt, a_enclosing, a_trialLength) x1 x3 x4 := by
  subst e1 e3 e4
  have w := sn_xl_history_text p q m hp hq h m 0 (m + 1) (by omega) (by omega)
  rw [sn_cp0] at w
  exact ⟨m + 1, w⟩
theorem sn_xl_history_typedLength (p q m : Nat) (hp : p + m ≤ 2544) (hq : q + m ≤ 10) (h : post (f_capacity, f_historyCap, f_length, f_caret, f_selStart, f_bodyLength, f_undoDepth, f_merge, f_itemCount, f_baseLength, f_basePos, f_activeStop, f_selected, f_draftCount, f_depth, f_readAt, a_text, a_body, a_history, a_itemKind, a_itemValue, a_openAt, a_closeAt, a_base, sn_cp a_history p a_typedLength q m, a_typedText, a_draftKind, a_draftValue, a_draftOpenAt, a_draftCloseAt, a_enclosing, a_trialLength)) : ∀ d i n, i + d = m → d < n → wX_copy__history_typedLength_3 post (nI p) (nI q) (nI m) f_capacity f_historyCap f_length f_caret f_selStart f_bodyLength f_undoDepth f_merge f_itemCount f_baseLength f_basePos f_activeStop f_selected f_draftCount f_depth f_readAt n (nI i) a_text a_body a_history a_itemKind a_itemValue a_openAt a_closeAt a_base (sn_cp a_history p a_typedLength q i) a_typedText a_draftKind a_draftValue a_draftOpenAt a_draftCloseAt a_enclosing a_trialLength := by
  intro d
  induction d with
  | zero =>
    intro i n hi hn
    obtain ⟨n, rfl⟩ : ∃ k, n = k + 1 := ⟨n - 1, by omega⟩
    obtain rfl : i = m := by omega
    exact br_t (nI_le (Nat.le_refl _) (by omega)) h
  | succ d ih =>
    intro i n hi hn
    obtain ⟨n, rfl⟩ : ∃ k, n = k + 1 := ⟨n - 1, by omega⟩
    refine br_f (nI_ge (by omega) (by omega)) ⟨?_, ?_, ?_⟩
    · rw [nI_add]; exact vp_in_nI (by omega) (by omega)
    · rw [nI_add]; exact vp_in_nI (by omega) (by omega)
    · intro y ey z ez
      rw [nI_add, nI_add, nI_clamp (by omega), nI_clamp (by omega), sn_cpS] at ey
      rw [ez, nI_1, ey]
      exact ih (i + 1) n (by omega) (by omega)
theorem sn_xc_history_typedLength {x1 x3 x4 : Int32} (p q m : Nat) (e1 : x1 = nI p) (e3 : x3 = nI q) (e4 : x4 = nI m) (hp : p + m ≤ 2544) (hq : q + m ≤ 10) (h : post (f_capacity, f_historyCap, f_length, f_caret, f_selStart, f_bodyLength, f_undoDepth, f_merge, f_itemCount, f_baseLength, f_basePos, f_activeStop, f_selected, f_draftCount, f_depth, f_readAt, a_text, a_body, a_history, a_itemKind, a_itemValue, a_openAt, a_closeAt, a_base, sn_cp a_history p a_typedLength q m, a_typedText, a_draftKind, a_draftValue, a_draftOpenAt, a_draftCloseAt, a_enclosing, a_trialLength)) : wpX_copy__history_typedLength post (f_capacity, f_historyCap, f_length, f_caret, f_selStart, f_bodyLength, f_undoDepth, f_merge, f_itemCount, f_baseLength, f_basePos, f_activeStop, f_selected, f_draftCount, f_depth, f_readAt, a_text, a_body, a_history, a_itemKind, a_itemValue, a_openAt, a_closeAt, a_base, a_typedLength, a_typedText, a_draftKind, a_draftValue, a_draftOpenAt, a_draftCloseAt, a_enclosing, a_trialLength) x1 x3 x4 := by
  subst e1 e3 e4
  have w := sn_xl_history_typedLength p q m hp hq h m 0 (m + 1) (by omega) (by omega)
  rw [sn_cp0] at w
  exact ⟨m + 1, w⟩
theorem sn_xl_history_typedText (p q m : Nat) (hp : p + m ≤ 2544) (hq : q + m ≤ 80) (h : post (f_capacity, f_historyCap, f_length, f_caret, f_selStart, f_bodyLength, f_undoDepth, f_merge, f_itemCount, f_baseLength, f_basePos, f_activeStop, f_selected, f_draftCount, f_depth, f_readAt, a_text, a_body, a_history, a_itemKind, a_itemValue, a_openAt, a_closeAt, a_base, a_typedLength, sn_cp a_history p a_typedText q m, a_draftKind, a_draftValue, a_draftOpenAt, a_draftCloseAt, a_enclosing, a_trialLength)) : ∀ d i n, i + d = m → d < n → wX_copy__history_typedText_3 post (nI p) (nI q) (nI m) f_capacity f_historyCap f_length f_caret f_selStart f_bodyLength f_undoDepth f_merge f_itemCount f_baseLength f_basePos f_activeStop f_selected f_draftCount f_depth f_readAt n (nI i) a_text a_body a_history a_itemKind a_itemValue a_openAt a_closeAt a_base a_typedLength (sn_cp a_history p a_typedText q i) a_draftKind a_draftValue a_draftOpenAt a_draftCloseAt a_enclosing a_trialLength := by
  intro d
  induction d with
  | zero =>
    intro i n hi hn
    obtain ⟨n, rfl⟩ : ∃ k, n = k + 1 := ⟨n - 1, by omega⟩
    obtain rfl : i = m := by omega
    exact br_t (nI_le (Nat.le_refl _) (by omega)) h
  | succ d ih =>
    intro i n hi hn
    obtain ⟨n, rfl⟩ : ∃ k, n = k + 1 := ⟨n - 1, by omega⟩
    refine br_f (nI_ge (by omega) (by omega)) ⟨?_, ?_, ?_⟩
    · rw [nI_add]; exact vp_in_nI (by omega) (by omega)
    · rw [nI_add]; exact vp_in_nI (by omega) (by omega)
    · intro y ey z ez
      rw [nI_add, nI_add, nI_clamp (by omega), nI_clamp (by omega), sn_cpS] at ey
      rw [ez, nI_1, ey]
      exact ih (i + 1) n (by omega) (by omega)
theorem sn_xc_history_typedText {x1 x3 x4 : Int32} (p q m : Nat) (e1 : x1 = nI p) (e3 : x3 = nI q) (e4 : x4 = nI m) (hp : p + m ≤ 2544) (hq : q + m ≤ 80) (h : post (f_capacity, f_historyCap, f_length, f_caret, f_selStart, f_bodyLength, f_undoDepth, f_merge, f_itemCount, f_baseLength, f_basePos, f_activeStop, f_selected, f_draftCount, f_depth, f_readAt, a_text, a_body, a_history, a_itemKind, a_itemValue, a_openAt, a_closeAt, a_base, a_typedLength, sn_cp a_history p a_typedText q m, a_draftKind, a_draftValue, a_draftOpenAt, a_draftCloseAt, a_enclosing, a_trialLength)) : wpX_copy__history_typedText post (f_capacity, f_historyCap, f_length, f_caret, f_selStart, f_bodyLength, f_undoDepth, f_merge, f_itemCount, f_baseLength, f_basePos, f_activeStop, f_selected, f_draftCount, f_depth, f_readAt, a_text, a_body, a_history, a_itemKind, a_itemValue, a_openAt, a_closeAt, a_base, a_typedLength, a_typedText, a_draftKind, a_draftValue, a_draftOpenAt, a_draftCloseAt, a_enclosing, a_trialLength) x1 x3 x4 := by
  subst e1 e3 e4
  have w := sn_xl_history_typedText p q m hp hq h m 0 (m + 1) (by omega) (by omega)
  rw [sn_cp0] at w
  exact ⟨m + 1, w⟩
end SNJ
end
section
section SNK
/-! X: groups and snapshots -/
theorem sn_ad {x y : Int32} (a b : Nat) (hx : x = nI a) (hy : y = nI b := by rfl) : x + y = nI (a + b) := by rw [hx, hy, nI_add]
theorem sn_mu {x y : Int32} (a b : Nat) (hx : x = nI a) (hy : y = nI b := by rfl) : x * y = nI (a * b) := by rw [hx, hy, pk_mul]
theorem sn_sb {x y : Int32} (a b : Nat) (h : b ≤ a) (hx : x = nI a) (hy : y = nI b := by rfl) : x - y = nI (a - b) := by rw [hx, hy, pk_sub h]
theorem sn_xsvI {xh xh1 t L T : Nat → Int32} {e d : Nat} {ln cr se ac sl : Int32} (h : ∀ j, j < 159 * d → xh1 j = xh (e + j)) :
    sn_xsv xh (sn_cp T 0 (sn_cp L 0 (sn_cp t 0 (upd (upd (upd (upd (upd xh1 (159 * d) ln) (159 * d + 1) cr) (159 * d + 2) se) (159 * d + 3) ac) (159 * d + 4) sl) (159 * d + 5) 64) (159 * d + 69) 10) (159 * d + 79) 80) e d ln cr se ac sl t L T := by
  refine ⟨fun j hj => ?_, ?_, ?_, ?_, ?_, ?_, fun k hk => ?_, fun k hk => ?_, fun k hk => ?_⟩
  · rw [sn_cpO (by omega), sn_cpO (by omega), sn_cpO (by omega), pk_un (by omega), pk_un (by omega), pk_un (by omega), pk_un (by omega), pk_un (by omega)]; exact h j hj
  · rw [sn_cpO (by omega), sn_cpO (by omega), sn_cpO (by omega), pk_un (by omega), pk_un (by omega), pk_un (by omega), pk_un (by omega), pk_us]
  · rw [sn_cpO (by omega), sn_cpO (by omega), sn_cpO (by omega), pk_un (by omega), pk_un (by omega), pk_un (by omega), pk_us]
  · rw [sn_cpO (by omega), sn_cpO (by omega), sn_cpO (by omega), pk_un (by omega), pk_un (by omega), pk_us]
  · rw [sn_cpO (by omega), sn_cpO (by omega), sn_cpO (by omega), pk_un (by omega), pk_us]
  · rw [sn_cpO (by omega), sn_cpO (by omega), sn_cpO (by omega), pk_us]
  · rw [sn_cpO (by omega), sn_cpO (by omega), sn_cpI hk, Nat.zero_add]
  · rw [sn_cpO (by omega), sn_cpI (by omega), Nat.zero_add]
  · rw [sn_cpI hk, Nat.zero_add]
variable {f_capacity f_historyCap f_length f_caret f_selStart f_bodyLength f_undoDepth f_merge f_itemCount f_baseLength f_basePos f_activeStop f_selected f_draftCount f_depth f_readAt : Int32} {a_text a_body a_history a_itemKind a_itemValue a_openAt a_closeAt a_base a_typedLength a_typedText a_draftKind a_draftValue a_draftOpenAt a_draftCloseAt a_enclosing a_trialLength : Nat → Int32}
variable {post : SX → Prop}
theorem sn_xg15 {xh : Nat → Int32} (e d : Nat) (hd : d < 16) (hb : sn_b1 f_selected) (hs : ∀ j, j < 159 * d → a_history j = xh (e + j))
    (h : ∀ xh', sn_xsv xh xh' e d f_length f_caret f_selStart f_activeStop f_selected a_text a_typedLength a_typedText → post (f_capacity, f_historyCap, f_length, f_caret, f_selStart, f_bodyLength, nI (d + 1), f_merge, f_itemCount, f_baseLength, f_basePos, f_activeStop, f_selected, f_draftCount, f_depth, f_readAt, a_text, a_body, xh', a_itemKind, a_itemValue, a_openAt, a_closeAt, a_base, a_typedLength, a_typedText, a_draftKind, a_draftValue, a_draftOpenAt, a_draftCloseAt, a_enclosing, a_trialLength)) : wX_startGroup_15 post f_capacity f_historyCap f_length f_caret f_selStart f_bodyLength (nI d) f_merge f_itemCount f_baseLength f_basePos f_activeStop f_selected f_draftCount f_depth f_readAt a_text a_body a_history a_itemKind a_itemValue a_openAt a_closeAt a_base a_typedLength a_typedText a_draftKind a_draftValue a_draftOpenAt a_draftCloseAt a_enclosing a_trialLength := by
  intro x1 ex1
  have hx : x1 = nI (159 * d) := by rw [ex1, sn_mu d 159 rfl, Nat.mul_comm]
  have c0 : (x1 + 0).toNatClampNeg = 159 * d := pk_cl (159 * d) (sn_ad (159 * d) 0 hx)
  have c1 : (x1 + 1).toNatClampNeg = 159 * d + 1 := pk_cl (159 * d + 1) (sn_ad (159 * d) 1 hx)
  have c2 : (x1 + 2).toNatClampNeg = 159 * d + 2 := pk_cl (159 * d + 2) (sn_ad (159 * d) 2 hx)
  have c3 : (x1 + 3).toNatClampNeg = 159 * d + 3 := pk_cl (159 * d + 3) (sn_ad (159 * d) 3 hx)
  have c4 : (x1 + 4).toNatClampNeg = 159 * d + 4 := pk_cl (159 * d + 4) (sn_ad (159 * d) 4 hx)
  refine ⟨pk_in (159 * d) 2544 (by omega) (sn_ad (159 * d) 0 hx), ?_⟩
  intro y1 e1
  refine ⟨pk_in (159 * d + 1) 2544 (by omega) (sn_ad (159 * d) 1 hx), ?_⟩
  intro y2 e2
  refine ⟨pk_in (159 * d + 2) 2544 (by omega) (sn_ad (159 * d) 2 hx), ?_⟩
  intro y3 e3
  refine ⟨pk_in (159 * d + 3) 2544 (by omega) (sn_ad (159 * d) 3 hx), ?_⟩
  intro y4 e4
  rw [c0] at e1
  rw [c1] at e2
  rw [c2] at e3
  rw [c3] at e4
  subst e1 e2 e3 e4
  have go : ∀ z : Int32, z = f_selected → wX_startGroup_91 post x1 z (x1 + 4) f_capacity f_historyCap f_length f_caret f_selStart f_bodyLength (nI d) f_merge f_itemCount f_baseLength f_basePos f_activeStop f_selected f_draftCount f_depth f_readAt a_text a_body (upd (upd (upd (upd a_history (159 * d) f_length) (159 * d + 1) f_caret) (159 * d + 2) f_selStart) (159 * d + 3) f_activeStop) a_itemKind a_itemValue a_openAt a_closeAt a_base a_typedLength a_typedText a_draftKind a_draftValue a_draftOpenAt a_draftCloseAt a_enclosing a_trialLength := by
    intro z ez
    refine ⟨pk_in (159 * d + 4) 2544 (by omega) (sn_ad (159 * d) 4 hx), ?_⟩
    intro y5 e5
    rw [c4, ez] at e5
    subst e5
    refine sn_xc_text_history 0 (159 * d + 5) 64 rfl (sn_ad (159 * d) 5 hx) rfl (by omega) (by omega) ?_
    refine sn_xc_typedLength_history 0 (159 * d + 69) 10 rfl (sn_ad (159 * d) 69 hx) rfl (by omega) (by omega) ?_
    refine sn_xc_typedText_history 0 (159 * d + 79) 80 rfl (sn_ad (159 * d) 79 hx) rfl (by omega) (by omega) ?_
    intro u eu
    rw [eu, nI_1]
    exact h _ (sn_xsvI hs)
  rcases hb with b | b
  · exact br_t b (go 0 b.symm)
  · exact br_f (by rw [b]; decide) (go 1 b.symm)
theorem sn_xgrp (e d dep hc : Nat) (h16 : hc ≤ 16) (hed : (dep < hc ∧ e = 0 ∧ d = dep) ∨ (dep = hc ∧ e = 1 ∧ d + 1 = dep)) (hb : sn_b1 f_selected)
    (h : ∀ xh', sn_xsv a_history xh' (159 * e) d f_length f_caret f_selStart f_activeStop f_selected a_text a_typedLength a_typedText → post (f_capacity, nI hc, f_length, f_caret, f_selStart, f_bodyLength, nI (d + 1), f_merge, f_itemCount, f_baseLength, f_basePos, f_activeStop, f_selected, f_draftCount, f_depth, f_readAt, a_text, a_body, xh', a_itemKind, a_itemValue, a_openAt, a_closeAt, a_base, a_typedLength, a_typedText, a_draftKind, a_draftValue, a_draftOpenAt, a_draftCloseAt, a_enclosing, a_trialLength)) :
    wpX_startGroup post (f_capacity, nI hc, f_length, f_caret, f_selStart, f_bodyLength, nI dep, f_merge, f_itemCount, f_baseLength, f_basePos, f_activeStop, f_selected, f_draftCount, f_depth, f_readAt, a_text, a_body, a_history, a_itemKind, a_itemValue, a_openAt, a_closeAt, a_base, a_typedLength, a_typedText, a_draftKind, a_draftValue, a_draftOpenAt, a_draftCloseAt, a_enclosing, a_trialLength) := by
  rcases hed with ⟨h1, h2, h3⟩ | ⟨h1, h2, h3⟩
  · subst h2 h3
    exact br_t (nI_lt h1 (by omega)) (sn_xg15 0 d (by omega) hb (fun j _ => by rw [Nat.zero_add]) h)
  · subst h2 h1
    refine br_f (nI_nlt (Nat.le_refl _) (by omega)) ?_
    intro y ey
    have hy : y = nI d := by rw [ey, ← h3, nI_pred]
    subst hy
    refine sn_xc_history_history 159 0 (159 * d) rfl rfl (by rw [sn_mu d 159 rfl, Nat.mul_comm]) (by omega) (by omega) (by omega) ?_
    refine sn_xg15 159 d (by omega) hb (fun j hj => ?_) h
    have q := sn_cpI (a := a_history) (b := a_history) (p := 159) (q := 0) (n := 159 * d) (j := j) hj
    rw [Nat.zero_add] at q
    exact q
/-- a snapshot comes back -/
theorem sn_xrst {x0 : Int32} (d : Nat) (hd : d < 16) (e0 : x0 = nI (159 * d)) (hb : sn_b1 (a_history (159 * d + 4)))
    (h : post (f_capacity, f_historyCap, a_history (159 * d), a_history (159 * d + 1), a_history (159 * d + 2), f_bodyLength, f_undoDepth, f_merge, f_itemCount, f_baseLength, f_basePos, a_history (159 * d + 3), a_history (159 * d + 4), f_draftCount, f_depth, f_readAt, sn_cp a_history (159 * d + 5) a_text 0 64, a_body, a_history, a_itemKind, a_itemValue, a_openAt, a_closeAt, a_base, sn_cp a_history (159 * d + 69) a_typedLength 0 10, sn_cp a_history (159 * d + 79) a_typedText 0 80, a_draftKind, a_draftValue, a_draftOpenAt, a_draftCloseAt, a_enclosing, a_trialLength)) :
    wpX_restoreSnapshot post (f_capacity, f_historyCap, f_length, f_caret, f_selStart, f_bodyLength, f_undoDepth, f_merge, f_itemCount, f_baseLength, f_basePos, f_activeStop, f_selected, f_draftCount, f_depth, f_readAt, a_text, a_body, a_history, a_itemKind, a_itemValue, a_openAt, a_closeAt, a_base, a_typedLength, a_typedText, a_draftKind, a_draftValue, a_draftOpenAt, a_draftCloseAt, a_enclosing, a_trialLength) x0 := by
  have c0 : (x0 + 0).toNatClampNeg = 159 * d := pk_cl (159 * d) (sn_ad (159 * d) 0 e0)
  have c1 : (x0 + 1).toNatClampNeg = 159 * d + 1 := pk_cl (159 * d + 1) (sn_ad (159 * d) 1 e0)
  have c2 : (x0 + 2).toNatClampNeg = 159 * d + 2 := pk_cl (159 * d + 2) (sn_ad (159 * d) 2 e0)
  have c3 : (x0 + 3).toNatClampNeg = 159 * d + 3 := pk_cl (159 * d + 3) (sn_ad (159 * d) 3 e0)
  have c4 : (x0 + 4).toNatClampNeg = 159 * d + 4 := pk_cl (159 * d + 4) (sn_ad (159 * d) 4 e0)
  refine ⟨pk_in (159 * d) 2544 (by omega) (sn_ad (159 * d) 0 e0), ?_⟩
  intro y1 e1
  refine ⟨pk_in (159 * d + 1) 2544 (by omega) (sn_ad (159 * d) 1 e0), ?_⟩
  intro y2 e2
  refine ⟨pk_in (159 * d + 2) 2544 (by omega) (sn_ad (159 * d) 2 e0), ?_⟩
  intro y3 e3
  refine ⟨pk_in (159 * d + 3) 2544 (by omega) (sn_ad (159 * d) 3 e0), ?_⟩
  intro y4 e4
  refine ⟨pk_in (159 * d + 4) 2544 (by omega) (sn_ad (159 * d) 4 e0), ?_⟩
  rw [c0] at e1
  rw [c1] at e2
  rw [c2] at e3
  rw [c3] at e4
  subst e1 e2 e3 e4
  rw [c4]
  have go : ∀ z : Int32, z = a_history (159 * d + 4) → sn_b1 z → wX_restoreSnapshot_66 post x0 z f_capacity f_historyCap (a_history (159 * d)) (a_history (159 * d + 1)) (a_history (159 * d + 2)) f_bodyLength f_undoDepth f_merge f_itemCount f_baseLength f_basePos (a_history (159 * d + 3)) f_selected f_draftCount f_depth f_readAt a_text a_body a_history a_itemKind a_itemValue a_openAt a_closeAt a_base a_typedLength a_typedText a_draftKind a_draftValue a_draftOpenAt a_draftCloseAt a_enclosing a_trialLength := by
    intro z ez hz
    refine ⟨?_, ?_, ?_⟩
    · rcases hz with b | b <;> rw [b] <;> rfl
    · rcases hz with b | b <;> rw [b] <;> rfl
    · refine sn_xc_history_text (159 * d + 5) 0 64 (sn_ad (159 * d) 5 e0) rfl rfl (by omega) (by omega) ?_
      refine sn_xc_history_typedLength (159 * d + 69) 0 10 (sn_ad (159 * d) 69 e0) rfl rfl (by omega) (by omega) ?_
      refine sn_xc_history_typedText (159 * d + 79) 0 80 (sn_ad (159 * d) 79 e0) rfl rfl (by omega) (by omega) ?_
      rw [ez]
      exact h
  rcases hb with b | b
  · exact br_f (by rw [b]; decide) (go 0 b.symm (Or.inl rfl))
  · exact br_t b (go 1 b.symm (Or.inr rfl))
end SNK
end
section
section SNL
/-! X: lengths -/
def sn_LL (L : Nat → Int32) : Prop := ∀ s, s ≤ 9 → L s = -1 ∨ ∃ m : Nat, m ≤ 8 ∧ L s = nI m
theorem sn_LL8 {L : Nat → Int32} (h : sn_LL L) : ∀ s, s ≤ 9 → (L s).toNatClampNeg ≤ 8 := by
  intro s hs
  rcases h s hs with e | ⟨m, hm, e⟩
  · rw [e, sn_m1n]; omega
  · rw [e, nI_clamp (by omega)]; exact hm
theorem sn_ne {a b : Nat} {y : Int32} (h : a ≠ b) (ha : a < 2000) (hb : b < 2000) (hy : y = nI b := by rfl) : ¬ nI a = y := by
  rw [hy, nI_eq (by omega) (by omega)]; exact h
theorem sn_nle {a b : Nat} (h : a < b) (hb : b < 2000) : ¬ nI b ≤ nI a := nI_ge h (by omega)
variable {f_capacity f_historyCap f_length f_caret f_selStart f_bodyLength f_undoDepth f_merge f_itemCount f_baseLength f_basePos f_activeStop f_selected f_draftCount f_depth f_readAt : Int32} {a_text a_body a_history a_itemKind a_itemValue a_openAt a_closeAt a_base a_typedLength a_typedText a_draftKind a_draftValue a_draftOpenAt a_draftCloseAt a_enclosing a_trialLength : Nat → Int32}
variable {post : Int32 → Prop} {K S oa ca sg dp pa st : Nat → Nat} {V : Nat → Int32} {c : Nat}
theorem sn_xspl_typedLength (P : sn_PI c 0 st K V S oa ca sg dp pa) (hc : c ≤ 65) (XS : sn_XS c K V oa ca a_itemKind a_itemValue a_openAt a_closeAt) (hL : sn_LL a_typedLength) (T : Nat → Int32) {f l : Nat} (hl : l ≤ c) (hp : post (nI (sn_sp K V S oa ca a_typedLength T f (l - f)).length)) :
    ∀ m i h n, i + m = l → f ≤ i → m < n → sn_HU oa ca a_typedLength f i h → h ≤ 1000 → wX_spanLength__typedLength_9 post (nI l) f_capacity f_historyCap f_length f_caret f_selStart f_bodyLength f_undoDepth f_merge f_itemCount f_baseLength f_basePos f_activeStop f_selected f_draftCount f_depth f_readAt a_text a_body a_history a_itemKind a_itemValue a_openAt a_closeAt a_base a_typedLength a_typedText a_draftKind a_draftValue a_draftOpenAt a_draftCloseAt a_enclosing a_trialLength n (nI (sn_sp K V S oa ca a_typedLength T f (i - f)).length) (nI h) (nI i) := by
  intro m
  induction m with
  | zero =>
    intro i h n hi hf hn H hh
    obtain ⟨n, rfl⟩ : ∃ k, n = k + 1 := ⟨n - 1, by omega⟩
    obtain rfl : i = l := by omega
    exact br_t (nI_le (Nat.le_refl _) (by omega)) hp
  | succ m ih =>
    intro i h n hi hf hn H hh
    obtain ⟨n, rfl⟩ : ∃ k, n = k + 1 := ⟨n - 1, by omega⟩
    have hic : i < c := by omega
    have e1 : sn_sp K V S oa ca a_typedLength T f (i + 1 - f) = sn_sp K V S oa ca a_typedLength T f (i - f) ++ sn_out K V S oa ca a_typedLength T f i := by
      rw [show i + 1 - f = (i - f) + 1 by omega, sn_sp, show f + (i - f) = i by omega]
    have ck : (nI i).toNatClampNeg = i := nI_clamp (by omega)
    have v65 : vp_in (nI i) 65 := vp_in_nI (by omega) (by omega)
    have K7 : K i ≤ 7 := by rcases P.2.2.2.2.1 i hic with a | a | a | a | a <;> omega
    have skip : sn_out K V S oa ca a_typedLength T f i = [] → (i < h ∨ ¬ (K i = 1 ∧ a_typedLength (S i) ≠ -1)) → ∀ y : Int32, y = nI i + 1 → wX_spanLength__typedLength_9 post (nI l) f_capacity f_historyCap f_length f_caret f_selStart f_bodyLength f_undoDepth f_merge f_itemCount f_baseLength f_basePos f_activeStop f_selected f_draftCount f_depth f_readAt a_text a_body a_history a_itemKind a_itemValue a_openAt a_closeAt a_base a_typedLength a_typedText a_draftKind a_draftValue a_draftOpenAt a_draftCloseAt a_enclosing a_trialLength n (nI (sn_sp K V S oa ca a_typedLength T f (i - f)).length) (nI h) y := by
      intro eo z y ey
      have w := ih (i + 1) h n (by omega) (by omega) (by omega) (sn_huA P.2.2.2.1 P.2.2.2.2.2.2.1 (by omega) H z) hh
      rw [e1, eo, List.append_nil] at w
      rw [ey, nI_1]; exact w
    refine br_f (nI_ge (by omega) (by omega)) ?_
    by_cases hhi : h ≤ i
    · have nh : ¬ sn_hid oa ca a_typedLength f i := fun z => by
        have := (sn_huH H).mpr z
        omega
      refine br_t (nI_le hhi (by omega)) ⟨v65, fun v ev => ⟨v65, ?_⟩⟩
      rw [ck, (XS.1 i hic).2] at ev
      rw [ck, (XS.1 i hic).1]
      by_cases k0 : K i = 0
      · refine br_t (by rw [k0]; rfl) (fun a ea b eb => ?_)
        have w := ih (i + 1) h n (by omega) (by omega) (by omega) (sn_huA P.2.2.2.1 P.2.2.2.2.2.2.1 (by omega) H (Or.inr (by omega))) hh
        rw [e1, sn_out0 nh k0, sn_len1] at w
        rw [ea, eb, nI_1, nI_1]; exact w
      · refine br_f (sn_ne k0 (by omega) (by omega)) ⟨v65, ?_⟩
        by_cases k1 : K i = 1
        · refine br_t (by rw [k1]; rfl) ?_
          have q : 1 ≤ S i ∧ S i ≤ 9 ∧ ca (S i) < c := by
            have h0 := P.1
            rcases P.2.2.2.2.1 i hic with a | a | a | a | a
            · omega
            · rcases sn_clo P (S i) with b | b | b <;> omega
            · omega
            · omega
            · omega
          have vv : v = nI (S i) := by rw [ev]; exact P.2.2.1 i hic k0
          subst vv
          have cs : (nI (S i)).toNatClampNeg = S i := nI_clamp (by omega)
          have v10 : vp_in (nI (S i)) 10 := vp_in_nI (by omega) (by omega)
          refine ⟨v10, ?_⟩
          rw [cs]
          by_cases l1 : a_typedLength (S i) = -1
          · exact br_t l1 (skip (sn_out2 k0 (fun z => z.2 l1)) (Or.inr (fun z => z.2 l1)))
          · refine br_f l1 ⟨v10, fun a ea => ⟨v10, fun b eb d ed => ?_⟩⟩
            rcases hL (S i) q.2.1 with z | ⟨mm, hm, em⟩
            · exact absurd z l1
            · have h0 := P.1
              have cl : a_closeAt (S i) = nI (ca (S i)) := by rw [XS.2.2 (S i) q.2.1, sn_o1 (by omega)]
              have w := ih (i + 1) (ca (S i)) n (by omega) (by omega) (by omega) (sn_huB P.2.2.2.1 P.2.2.2.2.1 hic h0 hf H hhi k1 l1) (by omega)
              rw [e1, sn_out1 nh k1 l1, List.length_append, sn_tyL, em, nI_clamp (by omega)] at w
              rw [ea, eb, ed, em, cl, nI_1, nI_add]; exact w
        · exact br_f (sn_ne k1 (by omega) (by omega)) (skip (sn_out2 k0 (fun z => k1 z.1)) (Or.inr (fun z => k1 z.1)))
    · exact br_f (nI_ge (by omega) (by omega)) (skip (sn_outH ((sn_huH H).mp (by omega))) (Or.inl (by omega)))
theorem sn_xsp_typedLength {x1 x2 : Int32} (P : sn_PI c 0 st K V S oa ca sg dp pa) (hc : c ≤ 65) (XS : sn_XS c K V oa ca a_itemKind a_itemValue a_openAt a_closeAt) (hL : sn_LL a_typedLength) (T : Nat → Int32) (f l : Nat) (e1 : x1 = nI f) (e2 : x2 = nI l) (hfl : f ≤ l) (hl : l ≤ c)
    (hp : post (nI (sn_sp K V S oa ca a_typedLength T f (l - f)).length)) : wpX_spanLength__typedLength post (f_capacity, f_historyCap, f_length, f_caret, f_selStart, f_bodyLength, f_undoDepth, f_merge, f_itemCount, f_baseLength, f_basePos, f_activeStop, f_selected, f_draftCount, f_depth, f_readAt, a_text, a_body, a_history, a_itemKind, a_itemValue, a_openAt, a_closeAt, a_base, a_typedLength, a_typedText, a_draftKind, a_draftValue, a_draftOpenAt, a_draftCloseAt, a_enclosing, a_trialLength) x1 x2 := by
  subst e1 e2
  have w := sn_xspl_typedLength (post := post) (f := f) (l := l) (f_capacity := f_capacity) (f_historyCap := f_historyCap) (f_length := f_length) (f_caret := f_caret) (f_selStart := f_selStart) (f_bodyLength := f_bodyLength) (f_undoDepth := f_undoDepth) (f_merge := f_merge) (f_itemCount := f_itemCount) (f_baseLength := f_baseLength) (f_basePos := f_basePos) (f_activeStop := f_activeStop) (f_selected := f_selected) (f_draftCount := f_draftCount) (f_depth := f_depth) (f_readAt := f_readAt) (a_text := a_text) (a_body := a_body) (a_history := a_history) (a_itemKind := a_itemKind) (a_itemValue := a_itemValue) (a_openAt := a_openAt) (a_closeAt := a_closeAt) (a_base := a_base) (a_typedLength := a_typedLength) (a_typedText := a_typedText) (a_draftKind := a_draftKind) (a_draftValue := a_draftValue) (a_draftOpenAt := a_draftOpenAt) (a_draftCloseAt := a_draftCloseAt) (a_enclosing := a_enclosing) (a_trialLength := a_trialLength) P hc XS hL T hl hp (l - f) f f (l - f + 1) (by omega) (Nat.le_refl _) (by omega) sn_hu0 (by omega)
  rw [Nat.sub_self] at w
  exact ⟨_, w⟩
theorem sn_xlbl_typedLength (P : sn_PI c 0 st K V S oa ca sg dp pa) (hc : c ≤ 65) (XS : sn_XS c K V oa ca a_itemKind a_itemValue a_openAt a_closeAt) (hL : sn_LL a_typedLength) (T : Nat → Int32) {x : Nat} (hx : x ≤ c) {b : Nat} (hp : post (nI (b + sn_ms K V S oa ca a_typedLength T x))) :
    ∀ m i n, i + m = x → m < n → wX_lengthBefore__typedLength_11 post (nI x) f_capacity f_historyCap f_length f_caret f_selStart f_bodyLength f_undoDepth f_merge f_itemCount f_baseLength f_basePos f_activeStop f_selected f_draftCount f_depth f_readAt a_text a_body a_history a_itemKind a_itemValue a_openAt a_closeAt a_base a_typedLength a_typedText a_draftKind a_draftValue a_draftOpenAt a_draftCloseAt a_enclosing a_trialLength n (nI (b + sn_ms K V S oa ca a_typedLength T i)) (nI i) := by
  intro m
  induction m with
  | zero =>
    intro i n hi hn
    obtain ⟨n, rfl⟩ : ∃ k, n = k + 1 := ⟨n - 1, by omega⟩
    obtain rfl : i = x := by omega
    exact br_t (nI_le (Nat.le_refl _) (by omega)) hp
  | succ m ih =>
    intro i n hi hn
    obtain ⟨n, rfl⟩ : ∃ k, n = k + 1 := ⟨n - 1, by omega⟩
    have hic : i < c := by omega
    have ck : (nI i).toNatClampNeg = i := nI_clamp (by omega)
    have v65 : vp_in (nI i) 65 := vp_in_nI (by omega) (by omega)
    have K7 : K i ≤ 7 := by rcases P.2.2.2.2.1 i hic with a | a | a | a | a <;> omega
    have w := ih (i + 1) n (by omega) (by omega)
    rw [sn_ms] at w
    refine br_f (nI_ge (by omega) (by omega)) ⟨v65, ?_⟩
    rw [ck, (XS.1 i hic).1, (XS.1 i hic).2]
    by_cases k4 : K i < 4
    · rw [if_neg (by omega), Nat.add_zero] at w
      exact br_t (nI_lt (b := 4) k4 (by omega)) (br_t rfl (fun y ey => by rw [ey, nI_1]; exact w))
    · rw [if_pos (by omega)] at w
      have q : 1 ≤ S i ∧ S i ≤ 9 ∧ oa (S i) < ca (S i) ∧ ca (S i) < c := by
        have h0 := P.1
        rcases P.2.2.2.2.1 i hic with a | a | a | a | a
        · omega
        · omega
        · omega
        · omega
        · rcases sn_clo P (S i) with b | b | b <;> omega
      have h0 := P.1
      have vv : V i = nI (S i) := P.2.2.1 i hic (by omega)
      have cs : (nI (S i)).toNatClampNeg = S i := nI_clamp (by omega)
      have v10 : vp_in (nI (S i)) 10 := vp_in_nI (by omega) (by omega)
      refine br_f (nI_nlt (b := 4) (by omega) (by omega)) (br_f (by decide) ⟨v65, fun v ev => ?_⟩)
      rw [vv] at ev
      subst ev
      refine ⟨v10, v10, ?_⟩
      rw [cs]
      refine sn_xsp_typedLength P hc XS hL T (oa (S i)) (ca (S i)) (by rw [XS.2.1 _ q.2.1, sn_o1 (by omega)]) (by rw [XS.2.2 _ q.2.1, sn_o1 (by omega)]) (by omega) (by omega) ?_
      intro a ea d ed
      rw [ea, ed, nI_1, nI_add, Nat.add_assoc]
      exact w
theorem sn_xlb_typedLength {x0 : Int32} (P : sn_PI c 0 st K V S oa ca sg dp pa) (hc : c ≤ 65) (XS : sn_XS c K V oa ca a_itemKind a_itemValue a_openAt a_closeAt) (hL : sn_LL a_typedLength) (T : Nat → Int32) (x : Nat) (e0 : x0 = nI x) (hx : x ≤ c)
    (hp : post (nI (sn_rr K V S oa ca a_typedLength T x).length)) : wpX_lengthBefore__typedLength post (f_capacity, f_historyCap, f_length, f_caret, f_selStart, f_bodyLength, f_undoDepth, f_merge, f_itemCount, f_baseLength, f_basePos, f_activeStop, f_selected, f_draftCount, f_depth, f_readAt, a_text, a_body, a_history, a_itemKind, a_itemValue, a_openAt, a_closeAt, a_base, a_typedLength, a_typedText, a_draftKind, a_draftValue, a_draftOpenAt, a_draftCloseAt, a_enclosing, a_trialLength) x0 := by
  subst e0
  refine sn_xsp_typedLength P hc XS hL T 0 x rfl rfl (Nat.zero_le _) hx ?_
  rw [sn_rrL] at hp
  have w := sn_xlbl_typedLength (post := post) (x := x) (f_capacity := f_capacity) (f_historyCap := f_historyCap) (f_length := f_length) (f_caret := f_caret) (f_selStart := f_selStart) (f_bodyLength := f_bodyLength) (f_undoDepth := f_undoDepth) (f_merge := f_merge) (f_itemCount := f_itemCount) (f_baseLength := f_baseLength) (f_basePos := f_basePos) (f_activeStop := f_activeStop) (f_selected := f_selected) (f_draftCount := f_draftCount) (f_depth := f_depth) (f_readAt := f_readAt) (a_text := a_text) (a_body := a_body) (a_history := a_history) (a_itemKind := a_itemKind) (a_itemValue := a_itemValue) (a_openAt := a_openAt) (a_closeAt := a_closeAt) (a_base := a_base) (a_typedLength := a_typedLength) (a_typedText := a_typedText) (a_draftKind := a_draftKind) (a_draftValue := a_draftValue) (a_draftOpenAt := a_draftOpenAt) (a_draftCloseAt := a_draftCloseAt) (a_enclosing := a_enclosing) (a_trialLength := a_trialLength) P hc XS hL T hx hp x 0 (x + 1) (by omega) (by omega)
  exact ⟨_, w⟩
theorem sn_xspl_trialLength (P : sn_PI c 0 st K V S oa ca sg dp pa) (hc : c ≤ 65) (XS : sn_XS c K V oa ca a_itemKind a_itemValue a_openAt a_closeAt) (hL : sn_LL a_trialLength) (T : Nat → Int32) {f l : Nat} (hl : l ≤ c) (hp : post (nI (sn_sp K V S oa ca a_trialLength T f (l - f)).length)) :
    ∀ m i h n, i + m = l → f ≤ i → m < n → sn_HU oa ca a_trialLength f i h → h ≤ 1000 → wX_spanLength__trialLength_9 post (nI l) f_capacity f_historyCap f_length f_caret f_selStart f_bodyLength f_undoDepth f_merge f_itemCount f_baseLength f_basePos f_activeStop f_selected f_draftCount f_depth f_readAt a_text a_body a_history a_itemKind a_itemValue a_openAt a_closeAt a_base a_typedLength a_typedText a_draftKind a_draftValue a_draftOpenAt a_draftCloseAt a_enclosing a_trialLength n (nI (sn_sp K V S oa ca a_trialLength T f (i - f)).length) (nI h) (nI i) := by
  intro m
  induction m with
  | zero =>
    intro i h n hi hf hn H hh
    obtain ⟨n, rfl⟩ : ∃ k, n = k + 1 := ⟨n - 1, by omega⟩
    obtain rfl : i = l := by omega
    exact br_t (nI_le (Nat.le_refl _) (by omega)) hp
  | succ m ih =>
    intro i h n hi hf hn H hh
    obtain ⟨n, rfl⟩ : ∃ k, n = k + 1 := ⟨n - 1, by omega⟩
    have hic : i < c := by omega
    have e1 : sn_sp K V S oa ca a_trialLength T f (i + 1 - f) = sn_sp K V S oa ca a_trialLength T f (i - f) ++ sn_out K V S oa ca a_trialLength T f i := by
      rw [show i + 1 - f = (i - f) + 1 by omega, sn_sp, show f + (i - f) = i by omega]
    have ck : (nI i).toNatClampNeg = i := nI_clamp (by omega)
    have v65 : vp_in (nI i) 65 := vp_in_nI (by omega) (by omega)
    have K7 : K i ≤ 7 := by rcases P.2.2.2.2.1 i hic with a | a | a | a | a <;> omega
    have skip : sn_out K V S oa ca a_trialLength T f i = [] → (i < h ∨ ¬ (K i = 1 ∧ a_trialLength (S i) ≠ -1)) → ∀ y : Int32, y = nI i + 1 → wX_spanLength__trialLength_9 post (nI l) f_capacity f_historyCap f_length f_caret f_selStart f_bodyLength f_undoDepth f_merge f_itemCount f_baseLength f_basePos f_activeStop f_selected f_draftCount f_depth f_readAt a_text a_body a_history a_itemKind a_itemValue a_openAt a_closeAt a_base a_typedLength a_typedText a_draftKind a_draftValue a_draftOpenAt a_draftCloseAt a_enclosing a_trialLength n (nI (sn_sp K V S oa ca a_trialLength T f (i - f)).length) (nI h) y := by
      intro eo z y ey
      have w := ih (i + 1) h n (by omega) (by omega) (by omega) (sn_huA P.2.2.2.1 P.2.2.2.2.2.2.1 (by omega) H z) hh
      rw [e1, eo, List.append_nil] at w
      rw [ey, nI_1]; exact w
    refine br_f (nI_ge (by omega) (by omega)) ?_
    by_cases hhi : h ≤ i
    · have nh : ¬ sn_hid oa ca a_trialLength f i := fun z => by
        have := (sn_huH H).mpr z
        omega
      refine br_t (nI_le hhi (by omega)) ⟨v65, fun v ev => ⟨v65, ?_⟩⟩
      rw [ck, (XS.1 i hic).2] at ev
      rw [ck, (XS.1 i hic).1]
      by_cases k0 : K i = 0
      · refine br_t (by rw [k0]; rfl) (fun a ea b eb => ?_)
        have w := ih (i + 1) h n (by omega) (by omega) (by omega) (sn_huA P.2.2.2.1 P.2.2.2.2.2.2.1 (by omega) H (Or.inr (by omega))) hh
        rw [e1, sn_out0 nh k0, sn_len1] at w
        rw [ea, eb, nI_1, nI_1]; exact w
      · refine br_f (sn_ne k0 (by omega) (by omega)) ⟨v65, ?_⟩
        by_cases k1 : K i = 1
        · refine br_t (by rw [k1]; rfl) ?_
          have q : 1 ≤ S i ∧ S i ≤ 9 ∧ ca (S i) < c := by
            have h0 := P.1
            rcases P.2.2.2.2.1 i hic with a | a | a | a | a
            · omega
            · rcases sn_clo P (S i) with b | b | b <;> omega
            · omega
            · omega
            · omega
          have vv : v = nI (S i) := by rw [ev]; exact P.2.2.1 i hic k0
          subst vv
          have cs : (nI (S i)).toNatClampNeg = S i := nI_clamp (by omega)
          have v10 : vp_in (nI (S i)) 10 := vp_in_nI (by omega) (by omega)
          refine ⟨v10, ?_⟩
          rw [cs]
          by_cases l1 : a_trialLength (S i) = -1
          · exact br_t l1 (skip (sn_out2 k0 (fun z => z.2 l1)) (Or.inr (fun z => z.2 l1)))
          · refine br_f l1 ⟨v10, fun a ea => ⟨v10, fun b eb d ed => ?_⟩⟩
            rcases hL (S i) q.2.1 with z | ⟨mm, hm, em⟩
            · exact absurd z l1
            · have h0 := P.1
              have cl : a_closeAt (S i) = nI (ca (S i)) := by rw [XS.2.2 (S i) q.2.1, sn_o1 (by omega)]
              have w := ih (i + 1) (ca (S i)) n (by omega) (by omega) (by omega) (sn_huB P.2.2.2.1 P.2.2.2.2.1 hic h0 hf H hhi k1 l1) (by omega)
              rw [e1, sn_out1 nh k1 l1, List.length_append, sn_tyL, em, nI_clamp (by omega)] at w
              rw [ea, eb, ed, em, cl, nI_1, nI_add]; exact w
        · exact br_f (sn_ne k1 (by omega) (by omega)) (skip (sn_out2 k0 (fun z => k1 z.1)) (Or.inr (fun z => k1 z.1)))
    · exact br_f (nI_ge (by omega) (by omega)) (skip (sn_outH ((sn_huH H).mp (by omega))) (Or.inl (by omega)))
theorem sn_xsp_trialLength {x1 x2 : Int32} (P : sn_PI c 0 st K V S oa ca sg dp pa) (hc : c ≤ 65) (XS : sn_XS c K V oa ca a_itemKind a_itemValue a_openAt a_closeAt) (hL : sn_LL a_trialLength) (T : Nat → Int32) (f l : Nat) (e1 : x1 = nI f) (e2 : x2 = nI l) (hfl : f ≤ l) (hl : l ≤ c)
    (hp : post (nI (sn_sp K V S oa ca a_trialLength T f (l - f)).length)) : wpX_spanLength__trialLength post (f_capacity, f_historyCap, f_length, f_caret, f_selStart, f_bodyLength, f_undoDepth, f_merge, f_itemCount, f_baseLength, f_basePos, f_activeStop, f_selected, f_draftCount, f_depth, f_readAt, a_text, a_body, a_history, a_itemKind, a_itemValue, a_openAt, a_closeAt, a_base, a_typedLength, a_typedText, a_draftKind, a_draftValue, a_draftOpenAt, a_draftCloseAt, a_enclosing, a_trialLength) x1 x2 := by
  subst e1 e2
  have w := sn_xspl_trialLength (post := post) (f := f) (l := l) (f_capacity := f_capacity) (f_historyCap := f_historyCap) (f_length := f_length) (f_caret := f_caret) (f_selStart := f_selStart) (f_bodyLength := f_bodyLength) (f_undoDepth := f_undoDepth) (f_merge := f_merge) (f_itemCount := f_itemCount) (f_baseLength := f_baseLength) (f_basePos := f_basePos) (f_activeStop := f_activeStop) (f_selected := f_selected) (f_draftCount := f_draftCount) (f_depth := f_depth) (f_readAt := f_readAt) (a_text := a_text) (a_body := a_body) (a_history := a_history) (a_itemKind := a_itemKind) (a_itemValue := a_itemValue) (a_openAt := a_openAt) (a_closeAt := a_closeAt) (a_base := a_base) (a_typedLength := a_typedLength) (a_typedText := a_typedText) (a_draftKind := a_draftKind) (a_draftValue := a_draftValue) (a_draftOpenAt := a_draftOpenAt) (a_draftCloseAt := a_draftCloseAt) (a_enclosing := a_enclosing) (a_trialLength := a_trialLength) P hc XS hL T hl hp (l - f) f f (l - f + 1) (by omega) (Nat.le_refl _) (by omega) sn_hu0 (by omega)
  rw [Nat.sub_self] at w
  exact ⟨_, w⟩
theorem sn_xlbl_trialLength (P : sn_PI c 0 st K V S oa ca sg dp pa) (hc : c ≤ 65) (XS : sn_XS c K V oa ca a_itemKind a_itemValue a_openAt a_closeAt) (hL : sn_LL a_trialLength) (T : Nat → Int32) {x : Nat} (hx : x ≤ c) {b : Nat} (hp : post (nI (b + sn_ms K V S oa ca a_trialLength T x))) :
    ∀ m i n, i + m = x → m < n → wX_lengthBefore__trialLength_11 post (nI x) f_capacity f_historyCap f_length f_caret f_selStart f_bodyLength f_undoDepth f_merge f_itemCount f_baseLength f_basePos f_activeStop f_selected f_draftCount f_depth f_readAt a_text a_body a_history a_itemKind a_itemValue a_openAt a_closeAt a_base a_typedLength a_typedText a_draftKind a_draftValue a_draftOpenAt a_draftCloseAt a_enclosing a_trialLength n (nI (b + sn_ms K V S oa ca a_trialLength T i)) (nI i) := by
  intro m
  induction m with
  | zero =>
    intro i n hi hn
    obtain ⟨n, rfl⟩ : ∃ k, n = k + 1 := ⟨n - 1, by omega⟩
    obtain rfl : i = x := by omega
    exact br_t (nI_le (Nat.le_refl _) (by omega)) hp
  | succ m ih =>
    intro i n hi hn
    obtain ⟨n, rfl⟩ : ∃ k, n = k + 1 := ⟨n - 1, by omega⟩
    have hic : i < c := by omega
    have ck : (nI i).toNatClampNeg = i := nI_clamp (by omega)
    have v65 : vp_in (nI i) 65 := vp_in_nI (by omega) (by omega)
    have K7 : K i ≤ 7 := by rcases P.2.2.2.2.1 i hic with a | a | a | a | a <;> omega
    have w := ih (i + 1) n (by omega) (by omega)
    rw [sn_ms] at w
    refine br_f (nI_ge (by omega) (by omega)) ⟨v65, ?_⟩
    rw [ck, (XS.1 i hic).1, (XS.1 i hic).2]
    by_cases k4 : K i < 4
    · rw [if_neg (by omega), Nat.add_zero] at w
      exact br_t (nI_lt (b := 4) k4 (by omega)) (br_t rfl (fun y ey => by rw [ey, nI_1]; exact w))
    · rw [if_pos (by omega)] at w
      have q : 1 ≤ S i ∧ S i ≤ 9 ∧ oa (S i) < ca (S i) ∧ ca (S i) < c := by
        have h0 := P.1
        rcases P.2.2.2.2.1 i hic with a | a | a | a | a
        · omega
        · omega
        · omega
        · omega
        · rcases sn_clo P (S i) with b | b | b <;> omega
      have h0 := P.1
      have vv : V i = nI (S i) := P.2.2.1 i hic (by omega)
      have cs : (nI (S i)).toNatClampNeg = S i := nI_clamp (by omega)
      have v10 : vp_in (nI (S i)) 10 := vp_in_nI (by omega) (by omega)
      refine br_f (nI_nlt (b := 4) (by omega) (by omega)) (br_f (by decide) ⟨v65, fun v ev => ?_⟩)
      rw [vv] at ev
      subst ev
      refine ⟨v10, v10, ?_⟩
      rw [cs]
      refine sn_xsp_trialLength P hc XS hL T (oa (S i)) (ca (S i)) (by rw [XS.2.1 _ q.2.1, sn_o1 (by omega)]) (by rw [XS.2.2 _ q.2.1, sn_o1 (by omega)]) (by omega) (by omega) ?_
      intro a ea d ed
      rw [ea, ed, nI_1, nI_add, Nat.add_assoc]
      exact w
theorem sn_xlb_trialLength {x0 : Int32} (P : sn_PI c 0 st K V S oa ca sg dp pa) (hc : c ≤ 65) (XS : sn_XS c K V oa ca a_itemKind a_itemValue a_openAt a_closeAt) (hL : sn_LL a_trialLength) (T : Nat → Int32) (x : Nat) (e0 : x0 = nI x) (hx : x ≤ c)
    (hp : post (nI (sn_rr K V S oa ca a_trialLength T x).length)) : wpX_lengthBefore__trialLength post (f_capacity, f_historyCap, f_length, f_caret, f_selStart, f_bodyLength, f_undoDepth, f_merge, f_itemCount, f_baseLength, f_basePos, f_activeStop, f_selected, f_draftCount, f_depth, f_readAt, a_text, a_body, a_history, a_itemKind, a_itemValue, a_openAt, a_closeAt, a_base, a_typedLength, a_typedText, a_draftKind, a_draftValue, a_draftOpenAt, a_draftCloseAt, a_enclosing, a_trialLength) x0 := by
  subst e0
  refine sn_xsp_trialLength P hc XS hL T 0 x rfl rfl (Nat.zero_le _) hx ?_
  rw [sn_rrL] at hp
  have w := sn_xlbl_trialLength (post := post) (x := x) (f_capacity := f_capacity) (f_historyCap := f_historyCap) (f_length := f_length) (f_caret := f_caret) (f_selStart := f_selStart) (f_bodyLength := f_bodyLength) (f_undoDepth := f_undoDepth) (f_merge := f_merge) (f_itemCount := f_itemCount) (f_baseLength := f_baseLength) (f_basePos := f_basePos) (f_activeStop := f_activeStop) (f_selected := f_selected) (f_draftCount := f_draftCount) (f_depth := f_depth) (f_readAt := f_readAt) (a_text := a_text) (a_body := a_body) (a_history := a_history) (a_itemKind := a_itemKind) (a_itemValue := a_itemValue) (a_openAt := a_openAt) (a_closeAt := a_closeAt) (a_base := a_base) (a_typedLength := a_typedLength) (a_typedText := a_typedText) (a_draftKind := a_draftKind) (a_draftValue := a_draftValue) (a_draftOpenAt := a_draftOpenAt) (a_draftCloseAt := a_draftCloseAt) (a_enclosing := a_enclosing) (a_trialLength := a_trialLength) P hc XS hL T hx hp x 0 (x + 1) (by omega) (by omega)
  exact ⟨_, w⟩
theorem sn_xpos {x0 : Int32} (P : sn_PI c 0 st K V S oa ca sg dp pa) (hc : c ≤ 65) (XS : sn_XS c K V oa ca a_itemKind a_itemValue a_openAt a_closeAt) (hL : sn_LL a_typedLength) (T : Nat → Int32) (bp x : Nat) (e0 : x0 = nI x) (hx : x ≤ c)
    (hp : post (nI (bp + (sn_rr K V S oa ca a_typedLength T x).length))) : wpX_positionOf post (f_capacity, f_historyCap, f_length, f_caret, f_selStart, f_bodyLength, f_undoDepth, f_merge, f_itemCount, f_baseLength, nI bp, f_activeStop, f_selected, f_draftCount, f_depth, f_readAt, a_text, a_body, a_history, a_itemKind, a_itemValue, a_openAt, a_closeAt, a_base, a_typedLength, a_typedText, a_draftKind, a_draftValue, a_draftOpenAt, a_draftCloseAt, a_enclosing, a_trialLength) x0 := by
  refine sn_xlb_typedLength P hc XS hL T x e0 hx ?_
  rw [nI_add]; exact hp
end SNL
end
section
section SNM
/-! X: writing the text -/
variable {K S oa ca sg dp pa st : Nat → Nat} {V L T : Nat → Int32} {c : Nat}
theorem sn_spMo {f : Nat} (n : Nat) : ∀ k, (sn_sp K V S oa ca L T f n).length ≤ (sn_sp K V S oa ca L T f (n + k)).length := by
  intro k
  induction k with
  | zero => exact Nat.le_refl _
  | succ k ih =>
    show _ ≤ (sn_sp K V S oa ca L T f (n + k + 1)).length
    rw [sn_sp, List.length_append]; omega
theorem sn_spMo' {f n m : Nat} (h : n ≤ m) : (sn_sp K V S oa ca L T f n).length ≤ (sn_sp K V S oa ca L T f m).length := by
  have a := sn_spMo (K := K) (V := V) (S := S) (oa := oa) (ca := ca) (L := L) (T := T) (f := f) n (m - n)
  rw [show n + (m - n) = m by omega] at a
  exact a
theorem sn_rrM' {n m : Nat} (h : n ≤ m) : (sn_rr K V S oa ca L T n).length ≤ (sn_rr K V S oa ca L T m).length := by
  have a := sn_rrM (K := K) (V := V) (S := S) (oa := oa) (ca := ca) (L := L) (T := T) (x := n) (m - n)
  rw [show n + (m - n) = m by omega] at a
  exact a
theorem sn_lo1 (x : Int32) : (x - 65) + 97 = x + 32 := by rw [Int32.sub_eq_add_neg, Int32.add_assoc]; rfl
theorem sn_up1 (x : Int32) : (x - 97) + 65 = x - 32 := by rw [Int32.sub_eq_add_neg, Int32.add_assoc, Int32.sub_eq_add_neg]; rfl
theorem sn_xlow {post : Int32 → Prop} {x : Int32} (h : post (sn_lo x)) : wpX_lower post x := by
  unfold sn_lo at h
  by_cases a : x < 65
  · rw [if_neg (fun z => absurd a (Int32.not_lt.mpr z.1))] at h; exact br_t a h
  · by_cases b : 90 < x
    · rw [if_neg (fun z => absurd b (Int32.not_lt.mpr z.2))] at h; exact br_f a (br_t b h)
    · rw [if_pos ⟨Int32.not_lt.mp a, Int32.not_lt.mp b⟩, ← sn_lo1] at h; exact br_f a (br_f b h)
theorem sn_xupp {post : Int32 → Prop} {x : Int32} (h : post (sn_up x)) : wpX_upper post x := by
  unfold sn_up at h
  by_cases a : x < 97
  · rw [if_neg (fun z => absurd a (Int32.not_lt.mpr z.1))] at h; exact br_t a h
  · by_cases b : 122 < x
    · rw [if_neg (fun z => absurd b (Int32.not_lt.mpr z.2))] at h; exact br_f a (br_t b h)
    · rw [if_pos ⟨Int32.not_lt.mp a, Int32.not_lt.mp b⟩, ← sn_up1] at h; exact br_f a (br_f b h)
variable {f_capacity f_historyCap f_length f_caret f_selStart f_bodyLength f_undoDepth f_merge f_itemCount f_baseLength f_basePos f_activeStop f_selected f_draftCount f_depth f_readAt : Int32} {a_text a_body a_history a_itemKind a_itemValue a_openAt a_closeAt a_base a_typedLength a_typedText a_draftKind a_draftValue a_draftOpenAt a_draftCloseAt a_enclosing a_trialLength : Nat → Int32}
variable {post : SX → Prop} {t : Nat → Int32}
theorem sn_xput {x : Int32} (l : List Int32) (hl : l.length < 64) (h : post (f_capacity, f_historyCap, nI (l ++ [x]).length, f_caret, f_selStart, f_bodyLength, f_undoDepth, f_merge, f_itemCount, f_baseLength, f_basePos, f_activeStop, f_selected, f_draftCount, f_depth, f_readAt, sn_wr t 0 (l ++ [x]), a_body, a_history, a_itemKind, a_itemValue, a_openAt, a_closeAt, a_base, a_typedLength, a_typedText, a_draftKind, a_draftValue, a_draftOpenAt, a_draftCloseAt, a_enclosing, a_trialLength)) : wpX_put post (f_capacity, f_historyCap, nI l.length, f_caret, f_selStart, f_bodyLength, f_undoDepth, f_merge, f_itemCount, f_baseLength, f_basePos, f_activeStop, f_selected, f_draftCount, f_depth, f_readAt, sn_wr t 0 l, a_body, a_history, a_itemKind, a_itemValue, a_openAt, a_closeAt, a_base, a_typedLength, a_typedText, a_draftKind, a_draftValue, a_draftOpenAt, a_draftCloseAt, a_enclosing, a_trialLength) x := by
  refine br_f (nI_ge (b := 64) (by omega) (by omega)) ⟨vp_in_nI hl (by omega), fun y ey z ez => ?_⟩
  rw [nI_clamp (by omega), sn_wrS t 0 _ l x (by omega)] at ey
  rw [ey, ez, nI_1, ← sn_len1 l x]; exact h
theorem sn_xwbl (p e : Nat) (he : e ≤ 64) (l : List Int32) (hl : l.length + (e - p) ≤ 64)
    (h : post (f_capacity, f_historyCap, nI (l ++ sn_ls (fun k => a_base (p + k)) (e - p)).length, f_caret, f_selStart, f_bodyLength, f_undoDepth, f_merge, f_itemCount, f_baseLength, f_basePos, f_activeStop, f_selected, f_draftCount, f_depth, f_readAt, sn_wr t 0 (l ++ sn_ls (fun k => a_base (p + k)) (e - p)), a_body, a_history, a_itemKind, a_itemValue, a_openAt, a_closeAt, a_base, a_typedLength, a_typedText, a_draftKind, a_draftValue, a_draftOpenAt, a_draftCloseAt, a_enclosing, a_trialLength)) :
    ∀ m k n, p + k + m = e → m < n → wX_writeBase_2 post (nI e) n (nI (p + k)) f_capacity f_historyCap (nI (l ++ sn_ls (fun k => a_base (p + k)) k).length) f_caret f_selStart f_bodyLength f_undoDepth f_merge f_itemCount f_baseLength f_basePos f_activeStop f_selected f_draftCount f_depth f_readAt (sn_wr t 0 (l ++ sn_ls (fun k => a_base (p + k)) k)) a_body a_history a_itemKind a_itemValue a_openAt a_closeAt a_base a_typedLength a_typedText a_draftKind a_draftValue a_draftOpenAt a_draftCloseAt a_enclosing a_trialLength := by
  intro m
  induction m with
  | zero =>
    intro k n hi hn
    obtain ⟨n, rfl⟩ : ∃ k, n = k + 1 := ⟨n - 1, by omega⟩
    obtain rfl : k = e - p := by omega
    exact br_t (nI_le (by omega) (by omega)) h
  | succ m ih =>
    intro k n hi hn
    obtain ⟨n, rfl⟩ : ∃ k, n = k + 1 := ⟨n - 1, by omega⟩
    refine br_f (nI_ge (by omega) (by omega)) ⟨vp_in_nI (by omega) (by omega), ?_⟩
    rw [nI_clamp (by omega)]
    refine sn_xput _ (by rw [List.length_append, sn_lsL]; omega) ?_
    intro y ey
    rw [ey, nI_1, List.append_assoc]
    exact ih (k + 1) n (by omega) (by omega)
theorem sn_xwb {x1 x2 : Int32} (p e : Nat) (e1 : x1 = nI p) (e2 : x2 = nI e) (hpe : p ≤ e) (he : e ≤ 64) (l : List Int32) (hl : l.length + (e - p) ≤ 64)
    (h : post (f_capacity, f_historyCap, nI (l ++ sn_ls (fun k => a_base (p + k)) (e - p)).length, f_caret, f_selStart, f_bodyLength, f_undoDepth, f_merge, f_itemCount, f_baseLength, f_basePos, f_activeStop, f_selected, f_draftCount, f_depth, f_readAt, sn_wr t 0 (l ++ sn_ls (fun k => a_base (p + k)) (e - p)), a_body, a_history, a_itemKind, a_itemValue, a_openAt, a_closeAt, a_base, a_typedLength, a_typedText, a_draftKind, a_draftValue, a_draftOpenAt, a_draftCloseAt, a_enclosing, a_trialLength)) :
    wpX_writeBase post (f_capacity, f_historyCap, nI l.length, f_caret, f_selStart, f_bodyLength, f_undoDepth, f_merge, f_itemCount, f_baseLength, f_basePos, f_activeStop, f_selected, f_draftCount, f_depth, f_readAt, sn_wr t 0 l, a_body, a_history, a_itemKind, a_itemValue, a_openAt, a_closeAt, a_base, a_typedLength, a_typedText, a_draftKind, a_draftValue, a_draftOpenAt, a_draftCloseAt, a_enclosing, a_trialLength) x1 x2 := by
  subst e1 e2
  have w := sn_xwbl p e he l hl h (e - p) 0 (e - p + 1) (by omega) (by omega)
  rw [show sn_ls (fun k => a_base (p + k)) 0 = [] from rfl, List.append_nil] at w
  exact ⟨_, w⟩
theorem sn_xw73 {J : _} {x2 x4 : Int32} (s mm : Nat) (hs : s ≤ 9) (em : a_typedLength s = nI mm) (hm : mm ≤ 8) (l : List Int32) (hl : l.length + mm ≤ 64)
    (h : ∀ a b : Int32, a = a_closeAt s → b = x4 + 1 → J a b f_capacity f_historyCap (nI (l ++ sn_ls (fun k => a_typedText (s * 8 + k)) mm).length) f_caret f_selStart f_bodyLength f_undoDepth f_merge f_itemCount f_baseLength f_basePos f_activeStop f_selected f_draftCount f_depth f_readAt (sn_wr t 0 (l ++ sn_ls (fun k => a_typedText (s * 8 + k)) mm)) a_body a_history a_itemKind a_itemValue a_openAt a_closeAt a_base a_typedLength a_typedText a_draftKind a_draftValue a_draftOpenAt a_draftCloseAt a_enclosing a_trialLength) :
    ∀ m k n, k + m = mm → m < n → wX_writeSpan_73 post J x2 x4 (nI s) n (nI k) f_capacity f_historyCap (nI (l ++ sn_ls (fun k => a_typedText (s * 8 + k)) k).length) f_caret f_selStart f_bodyLength f_undoDepth f_merge f_itemCount f_baseLength f_basePos f_activeStop f_selected f_draftCount f_depth f_readAt (sn_wr t 0 (l ++ sn_ls (fun k => a_typedText (s * 8 + k)) k)) a_body a_history a_itemKind a_itemValue a_openAt a_closeAt a_base a_typedLength a_typedText a_draftKind a_draftValue a_draftOpenAt a_draftCloseAt a_enclosing a_trialLength := by
  have cs : (nI s).toNatClampNeg = s := nI_clamp (by omega)
  have v10 : vp_in (nI s) 10 := vp_in_nI (by omega) (by omega)
  intro m
  induction m with
  | zero =>
    intro k n hi hn
    obtain ⟨n, rfl⟩ : ∃ k, n = k + 1 := ⟨n - 1, by omega⟩
    obtain rfl : k = mm := by omega
    refine ⟨v10, ?_⟩
    rw [cs, em]
    exact br_t (nI_le (Nat.le_refl _) (by omega)) ⟨v10, fun a ea b eb => h a b ea eb⟩
  | succ m ih =>
    intro k n hi hn
    obtain ⟨n, rfl⟩ : ∃ k, n = k + 1 := ⟨n - 1, by omega⟩
    refine ⟨v10, ?_⟩
    have ix : nI s * 8 + nI k = nI (s * 8 + k) := by rw [sn_mu s 8 rfl, nI_add]
    rw [cs, em, ix, nI_clamp (show s * 8 + k < 2 ^ 31 by omega)]
    refine br_f (nI_ge (by omega) (by omega)) ⟨vp_in_nI (by omega) (by omega), ?_⟩
    refine sn_xput _ (by rw [List.length_append, sn_lsL]; omega) ?_
    intro y ey
    rw [ey, nI_1, List.append_assoc]
    exact ih (k + 1) n (by omega) (by omega)
theorem sn_xw73o {J : _} {x2 x4 : Int32} (s mm : Nat) (hs : s ≤ 9) (em : a_typedLength s = nI mm) (hm : mm ≤ 8) (l : List Int32) (hl : l.length + mm ≤ 64)
    (h : ∀ a b : Int32, a = a_closeAt s → b = x4 + 1 → J a b f_capacity f_historyCap (nI (l ++ sn_ls (fun k => a_typedText (s * 8 + k)) mm).length) f_caret f_selStart f_bodyLength f_undoDepth f_merge f_itemCount f_baseLength f_basePos f_activeStop f_selected f_draftCount f_depth f_readAt (sn_wr t 0 (l ++ sn_ls (fun k => a_typedText (s * 8 + k)) mm)) a_body a_history a_itemKind a_itemValue a_openAt a_closeAt a_base a_typedLength a_typedText a_draftKind a_draftValue a_draftOpenAt a_draftCloseAt a_enclosing a_trialLength) :
    ∃ n, wX_writeSpan_73 post J x2 x4 (nI s) n 0 f_capacity f_historyCap (nI l.length) f_caret f_selStart f_bodyLength f_undoDepth f_merge f_itemCount f_baseLength f_basePos f_activeStop f_selected f_draftCount f_depth f_readAt (sn_wr t 0 l) a_body a_history a_itemKind a_itemValue a_openAt a_closeAt a_base a_typedLength a_typedText a_draftKind a_draftValue a_draftOpenAt a_draftCloseAt a_enclosing a_trialLength := by
  have z := sn_xw73 (post := post) (x2 := x2) s mm hs em hm l hl h mm 0 (mm + 1) (by omega) (by omega)
  rw [show sn_ls (fun k => a_typedText (s * 8 + k)) 0 = [] from rfl, List.append_nil] at z
  exact ⟨_, z⟩
theorem sn_xwsl (P : sn_PI c 0 st K V S oa ca sg dp pa) (hc : c ≤ 65) (XS : sn_XS c K V oa ca a_itemKind a_itemValue a_openAt a_closeAt) (hL : sn_LL a_typedLength) {f e : Nat} (he : e ≤ c) (l : List Int32)
    (hl : l.length + (sn_sp K V S oa ca a_typedLength a_typedText f (e - f)).length ≤ 64)
    (h : post (f_capacity, f_historyCap, nI (l ++ sn_sp K V S oa ca a_typedLength a_typedText f (e - f)).length, f_caret, f_selStart, f_bodyLength, f_undoDepth, f_merge, f_itemCount, f_baseLength, f_basePos, f_activeStop, f_selected, f_draftCount, f_depth, f_readAt, sn_wr t 0 (l ++ sn_sp K V S oa ca a_typedLength a_typedText f (e - f)), a_body, a_history, a_itemKind, a_itemValue, a_openAt, a_closeAt, a_base, a_typedLength, a_typedText, a_draftKind, a_draftValue, a_draftOpenAt, a_draftCloseAt, a_enclosing, a_trialLength)) :
    ∀ m i h' n, i + m = e → f ≤ i → m < n → sn_HU oa ca a_typedLength f i h' → h' ≤ 1000 → wX_writeSpan_5 post (nI e) n (nI h') (nI i) f_capacity f_historyCap (nI (l ++ sn_sp K V S oa ca a_typedLength a_typedText f (i - f)).length) f_caret f_selStart f_bodyLength f_undoDepth f_merge f_itemCount f_baseLength f_basePos f_activeStop f_selected f_draftCount f_depth f_readAt (sn_wr t 0 (l ++ sn_sp K V S oa ca a_typedLength a_typedText f (i - f))) a_body a_history a_itemKind a_itemValue a_openAt a_closeAt a_base a_typedLength a_typedText a_draftKind a_draftValue a_draftOpenAt a_draftCloseAt a_enclosing a_trialLength := by
  intro m
  induction m with
  | zero =>
    intro i h' n hi hf hn H hh
    obtain ⟨n, rfl⟩ : ∃ k, n = k + 1 := ⟨n - 1, by omega⟩
    obtain rfl : i = e := by omega
    exact br_t (nI_le (Nat.le_refl _) (by omega)) h
  | succ m ih =>
    intro i h' n hi hf hn H hh
    obtain ⟨n, rfl⟩ : ∃ k, n = k + 1 := ⟨n - 1, by omega⟩
    have hic : i < c := by omega
    have e1 : sn_sp K V S oa ca a_typedLength a_typedText f (i + 1 - f) = sn_sp K V S oa ca a_typedLength a_typedText f (i - f) ++ sn_out K V S oa ca a_typedLength a_typedText f i := by
      rw [show i + 1 - f = (i - f) + 1 by omega, sn_sp, show f + (i - f) = i by omega]
    have lm := sn_spMo' (K := K) (V := V) (S := S) (oa := oa) (ca := ca) (L := a_typedLength) (T := a_typedText) (f := f) (show i + 1 - f ≤ e - f by omega)
    have ck : (nI i).toNatClampNeg = i := nI_clamp (by omega)
    have v65 : vp_in (nI i) 65 := vp_in_nI (by omega) (by omega)
    have K7 : K i ≤ 7 := by rcases P.2.2.2.2.1 i hic with a | a | a | a | a <;> omega
    have skip : sn_out K V S oa ca a_typedLength a_typedText f i = [] → (i < h' ∨ ¬ (K i = 1 ∧ a_typedLength (S i) ≠ -1)) → ∀ y : Int32, y = nI i + 1 → wX_writeSpan_5 post (nI e) n (nI h') y f_capacity f_historyCap (nI (l ++ sn_sp K V S oa ca a_typedLength a_typedText f (i - f)).length) f_caret f_selStart f_bodyLength f_undoDepth f_merge f_itemCount f_baseLength f_basePos f_activeStop f_selected f_draftCount f_depth f_readAt (sn_wr t 0 (l ++ sn_sp K V S oa ca a_typedLength a_typedText f (i - f))) a_body a_history a_itemKind a_itemValue a_openAt a_closeAt a_base a_typedLength a_typedText a_draftKind a_draftValue a_draftOpenAt a_draftCloseAt a_enclosing a_trialLength := by
      intro eo z y ey
      have w := ih (i + 1) h' n (by omega) (by omega) (by omega) (sn_huA P.2.2.2.1 P.2.2.2.2.2.2.1 (by omega) H z) hh
      rw [e1, eo, List.append_nil] at w
      rw [ey, nI_1]; exact w
    refine br_f (nI_ge (by omega) (by omega)) ?_
    by_cases hhi : h' ≤ i
    · have nh : ¬ sn_hid oa ca a_typedLength f i := fun z => by
        have := (sn_huH H).mpr z
        omega
      refine br_t (nI_le hhi (by omega)) ⟨v65, fun v ev => ⟨v65, ?_⟩⟩
      rw [ck, (XS.1 i hic).2] at ev
      rw [ck, (XS.1 i hic).1]
      by_cases k0 : K i = 0
      · refine br_t (by rw [k0]; rfl) ?_
        rw [e1, sn_out0 nh k0, sn_len1] at lm
        refine sn_xput _ (by rw [List.length_append]; omega) ?_
        intro b eb
        have w := ih (i + 1) h' n (by omega) (by omega) (by omega) (sn_huA P.2.2.2.1 P.2.2.2.2.2.2.1 (by omega) H (Or.inr (by omega))) hh
        rw [e1, sn_out0 nh k0, ← List.append_assoc, ← ev] at w
        rw [eb, nI_1]; exact w
      · refine br_f (sn_ne k0 (by omega) (by omega)) ⟨v65, ?_⟩
        by_cases k1 : K i = 1
        · refine br_t (by rw [k1]; rfl) ?_
          have q : 1 ≤ S i ∧ S i ≤ 9 ∧ ca (S i) < c := by
            have h0 := P.1
            rcases P.2.2.2.2.1 i hic with a | a | a | a | a
            · omega
            · rcases sn_clo P (S i) with b | b | b <;> omega
            · omega
            · omega
            · omega
          have vv : v = nI (S i) := by rw [ev]; exact P.2.2.1 i hic k0
          subst vv
          have cs : (nI (S i)).toNatClampNeg = S i := nI_clamp (by omega)
          have v10 : vp_in (nI (S i)) 10 := vp_in_nI (by omega) (by omega)
          refine ⟨v10, ?_⟩
          rw [cs]
          by_cases l1 : a_typedLength (S i) = -1
          · exact br_t l1 (skip (sn_out2 k0 (fun z => z.2 l1)) (Or.inr (fun z => z.2 l1)))
          · rcases hL (S i) q.2.1 with z | ⟨mm, hm, em⟩
            · exact absurd z l1
            · have h0 := P.1
              have cl : a_closeAt (S i) = nI (ca (S i)) := by rw [XS.2.2 (S i) q.2.1, sn_o1 (by omega)]
              have et : sn_out K V S oa ca a_typedLength a_typedText f i = sn_ls (fun k => a_typedText (S i * 8 + k)) mm := by
                rw [sn_out1 nh k1 l1]; unfold sn_ty; rw [em, nI_clamp (by omega)]
              rw [e1, et, List.length_append, sn_lsL] at lm
              have w := ih (i + 1) (ca (S i)) n (by omega) (by omega) (by omega) (sn_huB P.2.2.2.1 P.2.2.2.2.1 hic h0 hf H hhi k1 l1) (by omega)
              rw [e1, et, ← List.append_assoc] at w
              exact br_f l1 (sn_xw73o (S i) mm q.2.1 em hm (l ++ sn_sp K V S oa ca a_typedLength a_typedText f (i - f)) (by rw [List.length_append]; omega) (fun a b ea eb => by rw [ea, eb, cl, nI_1]; exact w))
        · exact br_f (sn_ne k1 (by omega) (by omega)) (skip (sn_out2 k0 (fun z => k1 z.1)) (Or.inr (fun z => k1 z.1)))
    · exact br_f (nI_ge (by omega) (by omega)) (skip (sn_outH ((sn_huH H).mp (by omega))) (Or.inl (by omega)))
theorem sn_xws {x1 x2 : Int32} (P : sn_PI c 0 st K V S oa ca sg dp pa) (hc : c ≤ 65) (XS : sn_XS c K V oa ca a_itemKind a_itemValue a_openAt a_closeAt) (hL : sn_LL a_typedLength) (f e : Nat) (e1 : x1 = nI f) (e2 : x2 = nI e) (hfe : f ≤ e) (he : e ≤ c) (l : List Int32)
    (hl : l.length + (sn_sp K V S oa ca a_typedLength a_typedText f (e - f)).length ≤ 64)
    (h : post (f_capacity, f_historyCap, nI (l ++ sn_sp K V S oa ca a_typedLength a_typedText f (e - f)).length, f_caret, f_selStart, f_bodyLength, f_undoDepth, f_merge, f_itemCount, f_baseLength, f_basePos, f_activeStop, f_selected, f_draftCount, f_depth, f_readAt, sn_wr t 0 (l ++ sn_sp K V S oa ca a_typedLength a_typedText f (e - f)), a_body, a_history, a_itemKind, a_itemValue, a_openAt, a_closeAt, a_base, a_typedLength, a_typedText, a_draftKind, a_draftValue, a_draftOpenAt, a_draftCloseAt, a_enclosing, a_trialLength)) :
    wpX_writeSpan post (f_capacity, f_historyCap, nI l.length, f_caret, f_selStart, f_bodyLength, f_undoDepth, f_merge, f_itemCount, f_baseLength, f_basePos, f_activeStop, f_selected, f_draftCount, f_depth, f_readAt, sn_wr t 0 l, a_body, a_history, a_itemKind, a_itemValue, a_openAt, a_closeAt, a_base, a_typedLength, a_typedText, a_draftKind, a_draftValue, a_draftOpenAt, a_draftCloseAt, a_enclosing, a_trialLength) x1 x2 := by
  subst e1 e2
  have w := sn_xwsl P hc XS hL he l hl h (e - f) f f (e - f + 1) (by omega) (Nat.le_refl _) (by omega) sn_hu0 (by omega)
  rw [Nat.sub_self, show sn_sp K V S oa ca a_typedLength a_typedText f 0 = [] from rfl, List.append_nil] at w
  exact ⟨_, w⟩
end SNM
end
section
section SNN
/-! X: mirrors and the whole text -/
variable {K S oa ca sg dp pa st : Nat → Nat} {V : Nat → Int32} {c : Nat}
variable {f_capacity f_historyCap f_length f_caret f_selStart f_bodyLength f_undoDepth f_merge f_itemCount f_baseLength f_basePos f_activeStop f_selected f_draftCount f_depth f_readAt : Int32} {a_text a_body a_history a_itemKind a_itemValue a_openAt a_closeAt a_base a_typedLength a_typedText a_draftKind a_draftValue a_draftOpenAt a_draftCloseAt a_enclosing a_trialLength : Nat → Int32}
variable {post : SX → Prop} {t : Nat → Int32}
theorem sn_xm42 (k p E N M : Nat) (hk : 4 ≤ k ∧ k ≤ 7) (hk7 : k = 7 → E = 1) (hN : p + N ≤ 64) (hE : E ≤ 64) (hM : (M = E ∧ E ≤ N) ∨ (M = N ∧ N < E)) (h : post (f_capacity, f_historyCap, nI (p + N), f_caret, f_selStart, f_bodyLength, f_undoDepth, f_merge, f_itemCount, f_baseLength, f_basePos, f_activeStop, f_selected, f_draftCount, f_depth, f_readAt, sn_tm k p M t, a_body, a_history, a_itemKind, a_itemValue, a_openAt, a_closeAt, a_base, a_typedLength, a_typedText, a_draftKind, a_draftValue, a_draftOpenAt, a_draftCloseAt, a_enclosing, a_trialLength)) :
    ∀ m j n, j + m = M → m < n → wX_writeMirror_42 post (nI k) (nI (p + E)) f_capacity f_historyCap (nI (p + N)) f_caret f_selStart f_bodyLength f_undoDepth f_merge f_itemCount f_baseLength f_basePos f_activeStop f_selected f_draftCount f_depth f_readAt n (nI (p + j)) (sn_tm k p j t) a_body a_history a_itemKind a_itemValue a_openAt a_closeAt a_base a_typedLength a_typedText a_draftKind a_draftValue a_draftOpenAt a_draftCloseAt a_enclosing a_trialLength := by
  intro m
  induction m with
  | zero =>
    intro j n hi hn
    obtain ⟨n, rfl⟩ : ∃ k, n = k + 1 := ⟨n - 1, by omega⟩
    obtain rfl : j = M := by omega
    rcases hM with ⟨h1, h2⟩ | ⟨h1, h2⟩
    · exact br_t (nI_le (by omega) (by omega)) h
    · exact br_f (nI_ge (by omega) (by omega)) (br_t (nI_le (by omega) (by omega)) h)
  | succ m ih =>
    intro j n hi hn
    obtain ⟨n, rfl⟩ : ∃ k, n = k + 1 := ⟨n - 1, by omega⟩
    have w := ih (j + 1) n (by omega) (by omega)
    have ck : (nI (p + j)).toNatClampNeg = p + j := nI_clamp (by omega)
    have v64 : vp_in (nI (p + j)) 64 := vp_in_nI (by omega) (by omega)
    refine br_f (nI_ge (by omega) (by omega)) (br_f (nI_ge (by omega) (by omega)) ?_)
    rw [ck, sn_tmA]
    by_cases k6 : k = 6
    · refine br_t (by rw [k6]; rfl) ⟨v64, sn_xlow ⟨v64, fun y ey z ez => ?_⟩⟩
      have e : sn_lo (t (p + j)) = sn_tc k j (t (p + j)) := by unfold sn_tc; rw [if_neg (by omega), if_pos k6]
      rw [e, sn_tmS] at ey
      rw [ey, ez, nI_1]; exact w
    · refine br_f (sn_ne k6 (by omega) (by omega)) ?_
      by_cases k4 : k = 4
      · refine br_t (by rw [k4]; rfl) (fun z ez => ?_)
        rw [k4, sn_tm4] at w
        rw [k4, sn_tm4, ez, nI_1]; exact w
      · refine br_f (sn_ne k4 (by omega) (by omega)) ⟨v64, sn_xupp ⟨v64, fun y ey z ez => ?_⟩⟩
        have e : sn_up (t (p + j)) = sn_tc k j (t (p + j)) := by
          unfold sn_tc
          by_cases k5 : k = 5
          · rw [if_pos k5]
          · have k7 : k = 7 := by omega
            have e1 := hk7 k7
            rw [if_neg k5, if_neg k6, if_pos ⟨k7, by omega⟩]
        rw [e, sn_tmS] at ey
        rw [ey, ez, nI_1]; exact w
theorem sn_xmir {x1 x2 : Int32} (P : sn_PI c 0 st K V S oa ca sg dp pa) (hc : c ≤ 65) (XS : sn_XS c K V oa ca a_itemKind a_itemValue a_openAt a_closeAt) (hL : sn_LL a_typedLength) (s k : Nat) (e1 : x1 = nI s) (e2 : x2 = nI k) (h1 : 1 ≤ s) (h9 : s ≤ 9) (hs : oa s < c) (hk : 4 ≤ k ∧ k ≤ 7) (l : List Int32)
    (hl : l.length + (sn_pt K V S oa ca a_typedLength a_typedText s).length ≤ 64)
    (h : post (f_capacity, f_historyCap, nI (l ++ sn_tr k (sn_pt K V S oa ca a_typedLength a_typedText s)).length, f_caret, f_selStart, f_bodyLength, f_undoDepth, f_merge, f_itemCount, f_baseLength, f_basePos, f_activeStop, f_selected, f_draftCount, f_depth, f_readAt, sn_wr t 0 (l ++ sn_tr k (sn_pt K V S oa ca a_typedLength a_typedText s)), a_body, a_history, a_itemKind, a_itemValue, a_openAt, a_closeAt, a_base, a_typedLength, a_typedText, a_draftKind, a_draftValue, a_draftOpenAt, a_draftCloseAt, a_enclosing, a_trialLength)) :
    wpX_writeMirror post (f_capacity, f_historyCap, nI l.length, f_caret, f_selStart, f_bodyLength, f_undoDepth, f_merge, f_itemCount, f_baseLength, f_basePos, f_activeStop, f_selected, f_draftCount, f_depth, f_readAt, sn_wr t 0 l, a_body, a_history, a_itemKind, a_itemValue, a_openAt, a_closeAt, a_base, a_typedLength, a_typedText, a_draftKind, a_draftValue, a_draftOpenAt, a_draftCloseAt, a_enclosing, a_trialLength) x1 x2 := by
  subst e1 e2
  have h0 := P.1
  have q : oa s < ca s ∧ ca s < c := by rcases sn_clo P s with a | a | a <;> omega
  have cs : (nI s).toNatClampNeg = s := nI_clamp (by omega)
  have v10 : vp_in (nI s) 10 := vp_in_nI (by omega) (by omega)
  refine ⟨v10, v10, ?_⟩
  rw [cs]
  refine sn_xws P hc XS hL (oa s) (ca s) (by rw [XS.2.1 _ h9, sn_o1 (by omega)]) (by rw [XS.2.2 _ h9, sn_o1 (by omega)]) (by omega) (by omega) l hl ?_
  have ew : sn_wr t 0 (l ++ sn_pt K V S oa ca a_typedLength a_typedText s) = sn_wr (sn_wr t 0 l) l.length (sn_pt K V S oa ca a_typedLength a_typedText s) := by rw [← sn_wrA, Nat.zero_add]
  have ew2 : sn_wr t 0 (l ++ sn_tr k (sn_pt K V S oa ca a_typedLength a_typedText s)) = sn_wr (sn_wr t 0 l) l.length (sn_tr k (sn_pt K V S oa ca a_typedLength a_typedText s)) := by rw [← sn_wrA, Nat.zero_add]
  have hlen : (l ++ sn_tr k (sn_pt K V S oa ca a_typedLength a_typedText s)).length = l.length + (sn_pt K V S oa ca a_typedLength a_typedText s).length := by rw [List.length_append, sn_trL]
  have hlen2 : (l ++ sn_pt K V S oa ca a_typedLength a_typedText s).length = l.length + (sn_pt K V S oa ca a_typedLength a_typedText s).length := by rw [List.length_append]
  rw [hlen, ew2] at h
  have fin : ∀ M E, (M = E ∧ E ≤ (sn_pt K V S oa ca a_typedLength a_typedText s).length) ∨ (M = (sn_pt K V S oa ca a_typedLength a_typedText s).length ∧ (sn_pt K V S oa ca a_typedLength a_typedText s).length < E) → (k = 7 → E = 1) → (k ≠ 7 → E = (sn_pt K V S oa ca a_typedLength a_typedText s).length) → E ≤ 64 →
      ∃ n, wX_writeMirror_42 post (nI k) (nI (l.length + E)) f_capacity f_historyCap (nI (l.length + (sn_pt K V S oa ca a_typedLength a_typedText s).length)) f_caret f_selStart f_bodyLength f_undoDepth f_merge f_itemCount f_baseLength f_basePos f_activeStop f_selected f_draftCount f_depth f_readAt n (nI l.length) (sn_wr t 0 (l ++ sn_pt K V S oa ca a_typedLength a_typedText s)) a_body a_history a_itemKind a_itemValue a_openAt a_closeAt a_base a_typedLength a_typedText a_draftKind a_draftValue a_draftOpenAt a_draftCloseAt a_enclosing a_trialLength := by
    intro M E hM h7 hn7 hE
    have et : sn_tm k l.length M (sn_wr t 0 (l ++ sn_pt K V S oa ca a_typedLength a_typedText s)) = sn_wr (sn_wr t 0 l) l.length (sn_tr k (sn_pt K V S oa ca a_typedLength a_typedText s)) := by
      rw [ew]
      by_cases k7 : k = 7
      · by_cases z : 1 ≤ (sn_pt K V S oa ca a_typedLength a_typedText s).length
        · have e1 := h7 k7
          rw [show M = 1 by omega, k7, sn_tm7 _ _ _ z]
        · rw [show M = (sn_pt K V S oa ca a_typedLength a_typedText s).length by have := h7 k7; omega, sn_tmE]
      · rw [show M = (sn_pt K V S oa ca a_typedLength a_typedText s).length by have := hn7 k7; omega, sn_tmE]
    have w := sn_xm42 (post := post) (t := sn_wr t 0 (l ++ sn_pt K V S oa ca a_typedLength a_typedText s)) k l.length E (sn_pt K V S oa ca a_typedLength a_typedText s).length M hk h7 (by omega) hE hM (by rw [et]; exact h) M 0 (M + 1) (by omega) (by omega)
    rw [sn_tm0] at w
    exact ⟨_, w⟩
  show (_ → _) ∧ (_ → _)
  rw [show (sn_sp K V S oa ca a_typedLength a_typedText (oa s) (ca s - oa s)) = sn_pt K V S oa ca a_typedLength a_typedText s from rfl, hlen2]
  by_cases k7 : k = 7
  · refine br_t (by rw [k7]; rfl) (fun y ey => ?_)
    rw [ey, nI_1]
    by_cases z : 1 ≤ (sn_pt K V S oa ca a_typedLength a_typedText s).length
    · exact fin 1 1 (Or.inl ⟨rfl, z⟩) (fun _ => rfl) (fun y => absurd k7 y) (by omega)
    · exact fin 0 1 (Or.inr ⟨by omega, by omega⟩) (fun _ => rfl) (fun y => absurd k7 y) (by omega)
  · exact br_f (sn_ne k7 (by omega) (by omega)) (fin _ _ (Or.inl ⟨rfl, Nat.le_refl _⟩) (fun y => absurd y k7) (fun _ => rfl) (by omega))
theorem sn_xrw18 (P : sn_PI c 0 st K V S oa ca sg dp pa) (hc : c ≤ 65) (XS : sn_XS c K V oa ca a_itemKind a_itemValue a_openAt a_closeAt) (hL : sn_LL a_typedLength) (bp bl : Nat) (hb : bp ≤ bl) (hb64 : bl ≤ 64) (B : List Int32)
    (hl : B.length + (sn_rr K V S oa ca a_typedLength a_typedText c).length + (bl - bp) ≤ 64)
    (h : post (f_capacity, f_historyCap, nI (B ++ sn_rr K V S oa ca a_typedLength a_typedText c ++ sn_ls (fun k => a_base (bp + k)) (bl - bp)).length, f_caret, f_selStart, f_bodyLength, f_undoDepth, f_merge, nI c, nI bl, nI bp, f_activeStop, f_selected, f_draftCount, f_depth, f_readAt, sn_wr t 0 (B ++ sn_rr K V S oa ca a_typedLength a_typedText c ++ sn_ls (fun k => a_base (bp + k)) (bl - bp)), a_body, a_history, a_itemKind, a_itemValue, a_openAt, a_closeAt, a_base, a_typedLength, a_typedText, a_draftKind, a_draftValue, a_draftOpenAt, a_draftCloseAt, a_enclosing, a_trialLength)) :
    ∀ m i f n, i + m = c → m < n → f ≤ i → (f = 0 ∨ (∃ q, f = q + 1 ∧ q < c ∧ 4 ≤ K q)) → (∀ x, f ≤ x → x < i → K x < 4) →
      wX_rewriteText_18 post n (nI f) (nI i) f_capacity f_historyCap (nI (B ++ sn_rr K V S oa ca a_typedLength a_typedText f).length) f_caret f_selStart f_bodyLength f_undoDepth f_merge (nI c) (nI bl) (nI bp) f_activeStop f_selected f_draftCount f_depth f_readAt (sn_wr t 0 (B ++ sn_rr K V S oa ca a_typedLength a_typedText f)) a_body a_history a_itemKind a_itemValue a_openAt a_closeAt a_base a_typedLength a_typedText a_draftKind a_draftValue a_draftOpenAt a_draftCloseAt a_enclosing a_trialLength := by
  intro m
  induction m with
  | zero =>
    intro i f n hi hn hf hm hk
    obtain ⟨n, rfl⟩ : ∃ k, n = k + 1 := ⟨n - 1, by omega⟩
    obtain rfl : i = c := by omega
    have er := sn_rrF (L := a_typedLength) (T := a_typedText) (f := f) (n := i - f) P hm (by omega) (fun x h1 h2 => hk x h1 (by omega))
    rw [show f + (i - f) = i by omega] at er
    refine br_t (nI_le (Nat.le_refl _) (by omega)) ?_
    refine sn_xws P hc XS hL f i rfl rfl hf (Nat.le_refl _) _ (by rw [er, List.length_append] at hl; rw [List.length_append]; omega) ?_
    rw [List.append_assoc, ← er]
    refine sn_xwb bp bl rfl rfl hb hb64 _ (by rw [List.length_append]; omega) ?_
    exact h
  | succ m ih =>
    intro i f n hi hn hf hm hk
    obtain ⟨n, rfl⟩ : ∃ k, n = k + 1 := ⟨n - 1, by omega⟩
    have hic : i < c := by omega
    have ck : (nI i).toNatClampNeg = i := nI_clamp (by omega)
    have v65 : vp_in (nI i) 65 := vp_in_nI (by omega) (by omega)
    have K7 : K i ≤ 7 := by rcases P.2.2.2.2.1 i hic with a | a | a | a | a <;> omega
    refine br_f (nI_ge (by omega) (by omega)) ⟨v65, ?_⟩
    rw [ck, (XS.1 i hic).1]
    by_cases k4 : K i < 4
    · refine br_t (nI_lt (b := 4) k4 (by omega)) (br_t rfl (fun y ey => ?_))
      rw [ey, nI_1]
      refine ih (i + 1) f n (by omega) (by omega) (by omega) hm (fun x h1 h2 => ?_)
      by_cases z : x = i
      · rw [z]; exact k4
      · exact hk x h1 (by omega)
    · have er := sn_rrF (L := a_typedLength) (T := a_typedText) (f := f) (n := i - f) P hm (by omega) (fun x h1 h2 => hk x h1 (by omega))
      rw [show f + (i - f) = i by omega] at er
      have q : 1 ≤ S i ∧ S i ≤ 9 ∧ oa (S i) < c := by
        rcases P.2.2.2.2.1 i hic with a | a | a | a | a <;> omega
      have l1 := sn_rrM' (K := K) (V := V) (S := S) (oa := oa) (ca := ca) (L := a_typedLength) (T := a_typedText) (show i + 1 ≤ c by omega)
      have l2 : sn_rr K V S oa ca a_typedLength a_typedText (i + 1) = sn_rr K V S oa ca a_typedLength a_typedText i ++ sn_tr (K i) (sn_pt K V S oa ca a_typedLength a_typedText (S i)) := by rw [sn_rr, if_pos (by omega)]
      have l3 : (sn_rr K V S oa ca a_typedLength a_typedText (i + 1)).length = (sn_rr K V S oa ca a_typedLength a_typedText i).length + (sn_pt K V S oa ca a_typedLength a_typedText (S i)).length := by rw [l2, List.length_append, sn_trL]
      have l4 : (sn_rr K V S oa ca a_typedLength a_typedText i).length = (sn_rr K V S oa ca a_typedLength a_typedText f).length + (sn_sp K V S oa ca a_typedLength a_typedText f (i - f)).length := by rw [er, List.length_append]
      refine br_f (nI_nlt (b := 4) (by omega) (by omega)) (br_f (by decide) ?_)
      refine sn_xws P hc XS hL f i rfl rfl hf (by omega) _ (by rw [List.length_append]; omega) ?_
      rw [List.append_assoc, ← er]
      refine ⟨v65, v65, ?_⟩
      rw [(XS.1 i hic).1, (XS.1 i hic).2]
      refine sn_xmir P hc XS hL (S i) (K i) (P.2.2.1 i hic (by omega)) rfl q.1 q.2.1 q.2.2 ⟨by omega, K7⟩ _ (by rw [List.length_append]; omega) ?_
      rw [List.append_assoc, ← l2]
      intro y ey z ez
      rw [ey, ez, nI_1]
      exact ih (i + 1) (i + 1) n (by omega) (by omega) (Nat.le_refl _) (Or.inr ⟨i, rfl, hic, by omega⟩) (fun x h1 h2 => absurd h1 (by omega))
theorem sn_xrw (P : sn_PI c 0 st K V S oa ca sg dp pa) (hc : c ≤ 65) (XS : sn_XS c K V oa ca a_itemKind a_itemValue a_openAt a_closeAt) (hL : sn_LL a_typedLength) (bp bl : Nat) (hb : bp ≤ bl)
    (hl : bl + (sn_rr K V S oa ca a_typedLength a_typedText c).length ≤ 64)
    (h : post (f_capacity, f_historyCap, nI (bl + (sn_rr K V S oa ca a_typedLength a_typedText c).length), f_caret, f_selStart, f_bodyLength, f_undoDepth, f_merge, nI c, nI bl, nI bp, f_activeStop, f_selected, f_draftCount, f_depth, f_readAt, sn_wr a_text 0 (sn_ls a_base bp ++ sn_rr K V S oa ca a_typedLength a_typedText c ++ sn_ls (fun k => a_base (bp + k)) (bl - bp)), a_body, a_history, a_itemKind, a_itemValue, a_openAt, a_closeAt, a_base, a_typedLength, a_typedText, a_draftKind, a_draftValue, a_draftOpenAt, a_draftCloseAt, a_enclosing, a_trialLength)) :
    wpX_rewriteText post (f_capacity, f_historyCap, f_length, f_caret, f_selStart, f_bodyLength, f_undoDepth, f_merge, nI c, nI bl, nI bp, f_activeStop, f_selected, f_draftCount, f_depth, f_readAt, a_text, a_body, a_history, a_itemKind, a_itemValue, a_openAt, a_closeAt, a_base, a_typedLength, a_typedText, a_draftKind, a_draftValue, a_draftOpenAt, a_draftCloseAt, a_enclosing, a_trialLength) := by
  have w0 : sn_wr a_text 0 [] = a_text := sn_wr0 _ _
  have lb : (sn_ls a_base bp).length = bp := sn_lsL
  have e0 : sn_ls (fun k => a_base (0 + k)) (bp - 0) = sn_ls a_base bp := sn_lsC (fun k _ => by rw [Nat.zero_add])
  have hlen : (sn_ls a_base bp ++ sn_rr K V S oa ca a_typedLength a_typedText c ++ sn_ls (fun k => a_base (bp + k)) (bl - bp)).length = bl + (sn_rr K V S oa ca a_typedLength a_typedText c).length := by
    rw [List.length_append, List.length_append, sn_lsL, sn_lsL]; omega
  rw [← hlen] at h
  have w := sn_xrw18 (t := a_text) P hc XS hL bp bl hb (by omega) (sn_ls a_base bp) (by rw [lb]; omega) h c 0 0 (c + 1) (by omega) (by omega) (by omega) (Or.inl rfl) (fun x h1 h2 => absurd h2 (by omega))
  rw [show sn_rr K V S oa ca a_typedLength a_typedText 0 = [] from rfl, List.append_nil] at w
  have z := sn_xwb (post := fun u => match u with | (f_capacity, f_historyCap, f_length, f_caret, f_selStart, f_bodyLength, f_undoDepth, f_merge, f_itemCount, f_baseLength, f_basePos, f_activeStop, f_selected, f_draftCount, f_depth, f_readAt, a_text, a_body, a_history, a_itemKind, a_itemValue, a_openAt, a_closeAt, a_base, a_typedLength, a_typedText, a_draftKind, a_draftValue, a_draftOpenAt, a_draftCloseAt, a_enclosing, a_trialLength) => ∃ n18 : Nat, wX_rewriteText_18 post n18 0 0 f_capacity f_historyCap f_length f_caret f_selStart f_bodyLength f_undoDepth f_merge f_itemCount f_baseLength f_basePos f_activeStop f_selected f_draftCount f_depth f_readAt a_text a_body a_history a_itemKind a_itemValue a_openAt a_closeAt a_base a_typedLength a_typedText a_draftKind a_draftValue a_draftOpenAt a_draftCloseAt a_enclosing a_trialLength) (t := a_text) (f_capacity := f_capacity) (f_historyCap := f_historyCap) (f_caret := f_caret) (f_selStart := f_selStart) (f_bodyLength := f_bodyLength) (f_undoDepth := f_undoDepth) (f_merge := f_merge) (f_itemCount := nI c) (f_baseLength := nI bl) (f_basePos := nI bp) (f_activeStop := f_activeStop) (f_selected := f_selected) (f_draftCount := f_draftCount) (f_depth := f_depth) (f_readAt := f_readAt) (a_body := a_body) (a_history := a_history) (a_itemKind := a_itemKind) (a_itemValue := a_itemValue) (a_openAt := a_openAt) (a_closeAt := a_closeAt) (a_base := a_base) (a_typedLength := a_typedLength) (a_typedText := a_typedText) (a_draftKind := a_draftKind) (a_draftValue := a_draftValue) (a_draftOpenAt := a_draftOpenAt) (a_draftCloseAt := a_draftCloseAt) (a_enclosing := a_enclosing) (a_trialLength := a_trialLength) 0 bp (x1 := 0) (x2 := nI bp) rfl rfl (by omega) (by omega) [] (by show 0 + _ ≤ 64; omega) (by
    rw [List.nil_append, e0]
    exact ⟨_, w⟩)
  rw [w0] at z
  exact z
end SNN
end
section
section SNO
/-! X: alive stops, moving between stops -/
variable {K S oa ca sg dp pa st : Nat → Nat} {V : Nat → Int32} {c : Nat}
theorem sn_m1le {n : Nat} (h : n < 2 ^ 31) : (-1 : Int32) ≤ nI n := by
  rw [Int32.le_iff_toInt_le, nI_toInt h]
  show (-1 : Int) ≤ _
  omega
theorem sn_nm1 {n : Nat} (h : n < 2 ^ 31) : ¬ nI n = -1 := fun z => by
  have e := congrArg Int32.toInt z
  rw [nI_toInt h] at e
  have e2 : ((n : Nat) : Int) = -1 := e
  omega
theorem sn_nlem1 {n : Nat} (h : n < 2 ^ 31) : ¬ nI n ≤ -1 := fun z => by
  rw [Int32.le_iff_toInt_le, nI_toInt h] at z
  have e2 : ((n : Nat) : Int) ≤ -1 := z
  omega
theorem sn_oLE {a b : Nat} (ha : a ≤ 1000) (hb : b ≤ 1000) : sn_o a ≤ sn_o b ↔ (a = 1000 ∨ (b ≠ 1000 ∧ a ≤ b)) := by
  by_cases z : a = 1000
  · rw [sn_o0 z]
    refine ⟨fun _ => Or.inl z, fun _ => ?_⟩
    by_cases y : b = 1000
    · rw [sn_o0 y]; decide
    · rw [sn_o1 y]; exact sn_m1le (by omega)
  · rw [sn_o1 z]
    by_cases y : b = 1000
    · rw [sn_o0 y]
      exact ⟨fun w => absurd w (sn_nlem1 (by omega)), fun w => by omega⟩
    · rw [sn_o1 y, nI_leI (by omega) (by omega)]; omega
theorem sn_oM {a : Nat} (ha : a ≤ 1000) : sn_o a = -1 ↔ a = 1000 := by
  by_cases z : a = 1000
  · rw [sn_o0 z]; exact ⟨fun _ => z, fun _ => rfl⟩
  · rw [sn_o1 z]; exact ⟨fun w => absurd w (sn_nm1 (by omega)), fun w => absurd w z⟩
def sn_AL (oa ca : Nat → Nat) (L : Nat → Int32) (s : Nat) : Prop := oa s ≠ 1000 ∧ ¬ sn_hid oa ca L 0 (oa s)
theorem sn_clB (P : sn_PI c 0 st K V S oa ca sg dp pa) (s : Nat) : oa s ≤ 1000 ∧ ca s ≤ 1000 ∧ (oa s = 1000 ↔ ca s = 1000) := by
  have h0 := P.1
  rcases sn_clo P s with a | a | a <;> omega
variable {f_capacity f_historyCap f_length f_caret f_selStart f_bodyLength f_undoDepth f_merge f_itemCount f_baseLength f_basePos f_activeStop f_selected f_draftCount f_depth f_readAt : Int32} {a_text a_body a_history a_itemKind a_itemValue a_openAt a_closeAt a_base a_typedLength a_typedText a_draftKind a_draftValue a_draftOpenAt a_draftCloseAt a_enclosing a_trialLength : Nat → Int32}
theorem sn_xalvl {post : Int32 → Prop} (P : sn_PI c 0 st K V S oa ca sg dp pa) (XS : sn_XS c K V oa ca a_itemKind a_itemValue a_openAt a_closeAt) (s : Nat)
    (ht : sn_AL oa ca a_typedLength s → post 1) (hf : ¬ sn_AL oa ca a_typedLength s → post 0) :
    ∀ m k n, k + m = 10 → 1 ≤ k → m < n → (∀ t, 1 ≤ t → t < k → ¬ (a_typedLength t ≠ -1 ∧ oa t < oa s ∧ oa s < ca t)) → wX_isAlive_9 post (sn_o (oa s)) f_capacity f_historyCap f_length f_caret f_selStart f_bodyLength f_undoDepth f_merge f_itemCount f_baseLength f_basePos f_activeStop f_selected f_draftCount f_depth f_readAt a_text a_body a_history a_itemKind a_itemValue a_openAt a_closeAt a_base a_typedLength a_typedText a_draftKind a_draftValue a_draftOpenAt a_draftCloseAt a_enclosing a_trialLength n (nI k) := by
  have bs := sn_clB P s
  intro m
  induction m with
  | zero =>
    intro k n hi h1 hn hk
    obtain ⟨n, rfl⟩ : ∃ k, n = k + 1 := ⟨n - 1, by omega⟩
    obtain rfl : k = 10 := by omega
    refine br_t (by decide) ?_
    by_cases z : oa s = 1000
    · exact br_t ((sn_oM bs.1).mpr z) (hf (fun w => w.1 z))
    · exact br_f (fun w => z ((sn_oM bs.1).mp w)) (ht ⟨z, fun ⟨t, t1, t9, tl, _, to, tc⟩ => hk t t1 (by omega) ⟨tl, to, tc⟩⟩)
  | succ m ih =>
    intro k n hi h1 hn hk
    obtain ⟨n, rfl⟩ : ∃ k, n = k + 1 := ⟨n - 1, by omega⟩
    have ck : (nI k).toNatClampNeg = k := nI_clamp (by omega)
    have v10 : vp_in (nI k) 10 := vp_in_nI (by omega) (by omega)
    have bk := sn_clB P k
    have cont : ¬ (a_typedLength k ≠ -1 ∧ oa k < oa s ∧ oa s < ca k) → ∀ y : Int32, y = nI k + 1 → wX_isAlive_9 post (sn_o (oa s)) f_capacity f_historyCap f_length f_caret f_selStart f_bodyLength f_undoDepth f_merge f_itemCount f_baseLength f_basePos f_activeStop f_selected f_draftCount f_depth f_readAt a_text a_body a_history a_itemKind a_itemValue a_openAt a_closeAt a_base a_typedLength a_typedText a_draftKind a_draftValue a_draftOpenAt a_draftCloseAt a_enclosing a_trialLength n y := by
      intro z y ey
      rw [ey, nI_1]
      refine ih (k + 1) n (by omega) (by omega) (by omega) (fun t h2 h3 => ?_)
      by_cases e : t = k
      · rw [e]; exact z
      · exact hk t h2 (by omega)
    refine br_f (fun y => absurd ((nI_ltI (a := 9) (b := k) (by omega) (by omega)).mp y) (by omega)) ⟨v10, ?_⟩
    · rw [ck, XS.2.1 k (by omega), XS.2.2 k (by omega)]
      by_cases l : a_typedLength k = -1
      · exact br_t l (cont (fun z => z.1 l))
      · refine br_f l ⟨v10, ?_⟩
        by_cases z1 : sn_o (oa s) ≤ sn_o (oa k)
        · refine br_t z1 (cont (fun z => ?_))
          rw [sn_oLE bs.1 bk.1] at z1
          omega
        · refine br_f z1 ⟨v10, ?_⟩
          rw [sn_oLE bs.1 bk.1] at z1
          by_cases z2 : sn_o (ca k) ≤ sn_o (oa s)
          · refine br_t z2 (cont (fun z => ?_))
            rw [sn_oLE bk.2.1 bs.1] at z2
            omega
          · refine br_f z2 (hf (fun w => w.2 ⟨k, h1, by omega, l, by omega, ?_, ?_⟩))
            · rw [sn_oLE bk.2.1 bs.1] at z2
              have := w.1
              omega
            · rw [sn_oLE bk.2.1 bs.1] at z2
              have := w.1
              omega
theorem sn_xalv {post : Int32 → Prop} {x0 : Int32} (P : sn_PI c 0 st K V S oa ca sg dp pa) (XS : sn_XS c K V oa ca a_itemKind a_itemValue a_openAt a_closeAt) (s : Nat) (e0 : x0 = nI s) (h9 : s ≤ 9)
    (ht : sn_AL oa ca a_typedLength s → post 1) (hf : ¬ sn_AL oa ca a_typedLength s → post 0) : wpX_isAlive post (f_capacity, f_historyCap, f_length, f_caret, f_selStart, f_bodyLength, f_undoDepth, f_merge, f_itemCount, f_baseLength, f_basePos, f_activeStop, f_selected, f_draftCount, f_depth, f_readAt, a_text, a_body, a_history, a_itemKind, a_itemValue, a_openAt, a_closeAt, a_base, a_typedLength, a_typedText, a_draftKind, a_draftValue, a_draftOpenAt, a_draftCloseAt, a_enclosing, a_trialLength) x0 := by
  subst e0
  refine ⟨vp_in_nI (by omega) (by omega), ?_⟩
  intro y ey
  rw [nI_clamp (by omega), XS.2.1 s h9] at ey
  subst ey
  have w := sn_xalvl (post := post) (f_capacity := f_capacity) (f_historyCap := f_historyCap) (f_length := f_length) (f_caret := f_caret) (f_selStart := f_selStart) (f_bodyLength := f_bodyLength) (f_undoDepth := f_undoDepth) (f_merge := f_merge) (f_itemCount := f_itemCount) (f_baseLength := f_baseLength) (f_basePos := f_basePos) (f_activeStop := f_activeStop) (f_selected := f_selected) (f_draftCount := f_draftCount) (f_depth := f_depth) (f_readAt := f_readAt) (a_text := a_text) (a_body := a_body) (a_history := a_history) (a_itemKind := a_itemKind) (a_itemValue := a_itemValue) (a_openAt := a_openAt) (a_closeAt := a_closeAt) (a_base := a_base) (a_typedLength := a_typedLength) (a_typedText := a_typedText) (a_draftKind := a_draftKind) (a_draftValue := a_draftValue) (a_draftOpenAt := a_draftOpenAt) (a_draftCloseAt := a_draftCloseAt) (a_enclosing := a_enclosing) (a_trialLength := a_trialLength) P XS s ht hf 9 1 10 (by omega) (by omega) (by omega) (fun t h1 h2 => absurd h1 (by omega))
  exact ⟨10, w⟩
theorem sn_xaft {post : Int32 → Prop} {x0 : Int32} (P : sn_PI c 0 st K V S oa ca sg dp pa) (XS : sn_XS c K V oa ca a_itemKind a_itemValue a_openAt a_closeAt) (f : Nat) (e0 : x0 = nI f) (hf9 : f ≤ 9)
    (ha : ∀ a, f < a → a ≤ 9 → sn_AL oa ca a_typedLength a → (∀ t, f < t → t < a → ¬ sn_AL oa ca a_typedLength t) → post (nI a))
    (hn : (∀ t, f < t → t ≤ 9 → ¬ sn_AL oa ca a_typedLength t) → post (-1)) : wpX_aliveAfter post (f_capacity, f_historyCap, f_length, f_caret, f_selStart, f_bodyLength, f_undoDepth, f_merge, f_itemCount, f_baseLength, f_basePos, f_activeStop, f_selected, f_draftCount, f_depth, f_readAt, a_text, a_body, a_history, a_itemKind, a_itemValue, a_openAt, a_closeAt, a_base, a_typedLength, a_typedText, a_draftKind, a_draftValue, a_draftOpenAt, a_draftCloseAt, a_enclosing, a_trialLength) x0 := by
  subst e0
  intro y ey
  rw [nI_1] at ey
  subst ey
  have go : ∀ m k n, k + m = 10 → f < k → m < n → (∀ t, f < t → t < k → ¬ sn_AL oa ca a_typedLength t) → wX_aliveAfter_4 post f_capacity f_historyCap f_length f_caret f_selStart f_bodyLength f_undoDepth f_merge f_itemCount f_baseLength f_basePos f_activeStop f_selected f_draftCount f_depth f_readAt a_text a_body a_history a_itemKind a_itemValue a_openAt a_closeAt a_base a_typedLength a_typedText a_draftKind a_draftValue a_draftOpenAt a_draftCloseAt a_enclosing a_trialLength n (nI k) := by
    intro m
    induction m with
    | zero =>
      intro k n hi h1 h2 hk
      obtain ⟨n, rfl⟩ : ∃ k, n = k + 1 := ⟨n - 1, by omega⟩
      obtain rfl : k = 10 := by omega
      exact br_t (by decide) (hn (fun t h3 h4 => hk t h3 (by omega)))
    | succ m ih =>
      intro k n hi h1 h2 hk
      obtain ⟨n, rfl⟩ : ∃ k, n = k + 1 := ⟨n - 1, by omega⟩
      refine br_f (fun y => absurd ((nI_ltI (a := 9) (b := k) (by omega) (by omega)).mp y) (by omega)) ?_
      refine sn_xalv P XS k rfl (by omega) (fun z => ?_) (fun z => ?_)
      · exact br_f (by decide) (ha k h1 (by omega) z hk)
      · refine br_t rfl (fun y ey => ?_)
        rw [ey, nI_1]
        refine ih (k + 1) n (by omega) (by omega) (by omega) (fun t h3 h4 => ?_)
        by_cases e : t = k
        · rw [e]; exact z
        · exact hk t h3 (by omega)
  exact ⟨10 - f, go (9 - f) (f + 1) (10 - f) (by omega) (by omega) (by omega) (fun t h1 h2 => absurd h1 (by omega))⟩
theorem sn_xbef {post : Int32 → Prop} {x0 : Int32} (P : sn_PI c 0 st K V S oa ca sg dp pa) (XS : sn_XS c K V oa ca a_itemKind a_itemValue a_openAt a_closeAt) (f : Nat) (e0 : x0 = nI f) (hf1 : 1 ≤ f) (hf9 : f ≤ 9)
    (ha : ∀ a, 1 ≤ a → a < f → sn_AL oa ca a_typedLength a → (∀ t, a < t → t < f → ¬ sn_AL oa ca a_typedLength t) → post (nI a))
    (hn : (∀ t, 1 ≤ t → t < f → ¬ sn_AL oa ca a_typedLength t) → post (-1)) : wpX_aliveBefore post (f_capacity, f_historyCap, f_length, f_caret, f_selStart, f_bodyLength, f_undoDepth, f_merge, f_itemCount, f_baseLength, f_basePos, f_activeStop, f_selected, f_draftCount, f_depth, f_readAt, a_text, a_body, a_history, a_itemKind, a_itemValue, a_openAt, a_closeAt, a_base, a_typedLength, a_typedText, a_draftKind, a_draftValue, a_draftOpenAt, a_draftCloseAt, a_enclosing, a_trialLength) x0 := by
  subst e0
  intro y ey
  rw [sn_sb f 1 hf1 rfl] at ey
  subst ey
  have go : ∀ k n, k < f → k < n → (∀ t, k < t → t < f → ¬ sn_AL oa ca a_typedLength t) → wX_aliveBefore_4 post f_capacity f_historyCap f_length f_caret f_selStart f_bodyLength f_undoDepth f_merge f_itemCount f_baseLength f_basePos f_activeStop f_selected f_draftCount f_depth f_readAt a_text a_body a_history a_itemKind a_itemValue a_openAt a_closeAt a_base a_typedLength a_typedText a_draftKind a_draftValue a_draftOpenAt a_draftCloseAt a_enclosing a_trialLength n (nI k) := by
    intro k
    induction k with
    | zero =>
      intro n h1 h2 hk
      obtain ⟨n, rfl⟩ : ∃ k, n = k + 1 := ⟨n - 1, by omega⟩
      exact br_t (by decide) (hn (fun t h3 h4 => hk t (by omega) h4))
    | succ k ih =>
      intro n h1 h2 hk
      obtain ⟨n, rfl⟩ : ∃ k, n = k + 1 := ⟨n - 1, by omega⟩
      refine br_f (fun y => absurd ((nI_ltI (a := k + 1) (b := 1) (by omega) (by omega)).mp y) (by omega)) ?_
      refine sn_xalv P XS (k + 1) rfl (by omega) (fun z => ?_) (fun z => ?_)
      · exact br_f (by decide) (ha (k + 1) (by omega) h1 z hk)
      · refine br_t rfl (fun y ey => ?_)
        rw [ey, pk_m1]
        refine ih n (by omega) (by omega) (fun t h3 h4 => ?_)
        by_cases e : t = k + 1
        · rw [e]; exact z
        · exact hk t (by omega) h4
  exact ⟨f, go (f - 1) f (by omega) (by omega) (fun t h1 h2 => absurd h1 (by omega))⟩
theorem sn_xsel {post : SX → Prop} {x0 : Int32} (P : sn_PI c 0 st K V S oa ca sg dp pa) (hc : c ≤ 65) (XS : sn_XS c K V oa ca a_itemKind a_itemValue a_openAt a_closeAt) (hL : sn_LL a_typedLength) (T : Nat → Int32) (bp s : Nat) (e0 : x0 = nI s) (h1 : 1 ≤ s) (h9 : s ≤ 9) (hs : oa s < c)
    (h : post (f_capacity, f_historyCap, f_length, nI (bp + (sn_rr K V S oa ca a_typedLength T (ca s)).length), nI (bp + (sn_rr K V S oa ca a_typedLength T (oa s)).length), f_bodyLength, f_undoDepth, f_merge, f_itemCount, f_baseLength, nI bp, nI s, 1, f_draftCount, f_depth, f_readAt, a_text, a_body, a_history, a_itemKind, a_itemValue, a_openAt, a_closeAt, a_base, a_typedLength, a_typedText, a_draftKind, a_draftValue, a_draftOpenAt, a_draftCloseAt, a_enclosing, a_trialLength)) :
    wpX_select post (f_capacity, f_historyCap, f_length, f_caret, f_selStart, f_bodyLength, f_undoDepth, f_merge, f_itemCount, f_baseLength, nI bp, f_activeStop, f_selected, f_draftCount, f_depth, f_readAt, a_text, a_body, a_history, a_itemKind, a_itemValue, a_openAt, a_closeAt, a_base, a_typedLength, a_typedText, a_draftKind, a_draftValue, a_draftOpenAt, a_draftCloseAt, a_enclosing, a_trialLength) x0 := by
  subst e0
  have h0 := P.1
  have q : oa s < ca s ∧ ca s < c := by rcases sn_clo P s with a | a | a <;> omega
  have v10 : vp_in (nI s) 10 := vp_in_nI (by omega) (by omega)
  refine ⟨v10, ?_⟩
  rw [nI_clamp (show s < 2 ^ 31 by omega)]
  refine sn_xpos P hc XS hL T bp (oa s) (by rw [XS.2.1 _ h9, sn_o1 (by omega)]) (by omega) ⟨v10, ?_⟩
  exact sn_xpos P hc XS hL T bp (ca s) (by rw [XS.2.2 _ h9, sn_o1 (by omega)]) (by omega) h
/-- to the next alive stop, or to the final one -/
theorem sn_xgo {post : SX → Prop} {x0 : Int32} (P : sn_PI c 0 st K V S oa ca sg dp pa) (hc : c ≤ 65) (h00 : oa 0 < c) (XS : sn_XS c K V oa ca a_itemKind a_itemValue a_openAt a_closeAt) (hL : sn_LL a_typedLength) (T : Nat → Int32) (bp f : Nat) (e0 : x0 = nI f) (hf9 : f ≤ 9)
    (ha : ∀ a, f < a → a ≤ 9 → sn_AL oa ca a_typedLength a → (∀ t, f < t → t < a → ¬ sn_AL oa ca a_typedLength t) → post (f_capacity, f_historyCap, f_length, nI (bp + (sn_rr K V S oa ca a_typedLength T (ca a)).length), nI (bp + (sn_rr K V S oa ca a_typedLength T (oa a)).length), f_bodyLength, f_undoDepth, f_merge, f_itemCount, f_baseLength, nI bp, nI a, 1, f_draftCount, f_depth, f_readAt, a_text, a_body, a_history, a_itemKind, a_itemValue, a_openAt, a_closeAt, a_base, a_typedLength, a_typedText, a_draftKind, a_draftValue, a_draftOpenAt, a_draftCloseAt, a_enclosing, a_trialLength))
    (hn : (∀ t, f < t → t ≤ 9 → ¬ sn_AL oa ca a_typedLength t) → post (f_capacity, f_historyCap, f_length, nI (bp + (sn_rr K V S oa ca a_typedLength T (oa 0)).length), nI (bp + (sn_rr K V S oa ca a_typedLength T (oa 0)).length), f_bodyLength, f_undoDepth, f_merge, f_itemCount, f_baseLength, nI bp, (-1), f_selected, f_draftCount, f_depth, f_readAt, a_text, a_body, a_history, a_itemKind, a_itemValue, a_openAt, a_closeAt, a_base, a_typedLength, a_typedText, a_draftKind, a_draftValue, a_draftOpenAt, a_draftCloseAt, a_enclosing, a_trialLength)) :
    wpX_goToStopAfter post (f_capacity, f_historyCap, f_length, f_caret, f_selStart, f_bodyLength, f_undoDepth, f_merge, f_itemCount, f_baseLength, nI bp, f_activeStop, f_selected, f_draftCount, f_depth, f_readAt, a_text, a_body, a_history, a_itemKind, a_itemValue, a_openAt, a_closeAt, a_base, a_typedLength, a_typedText, a_draftKind, a_draftValue, a_draftOpenAt, a_draftCloseAt, a_enclosing, a_trialLength) x0 := by
  have h0 := P.1
  refine sn_xaft P XS f e0 hf9 (fun a h1 h9 al ht => ?_) (fun ht => ?_)
  · have oc : oa a < c := by
      have := al.1
      rcases sn_clo P a with z | z | z <;> omega
    refine br_f (sn_nm1 (by omega)) ?_
    exact sn_xsel P hc XS hL T bp a rfl (by omega) h9 oc (ha a h1 h9 al ht)
  · refine br_t rfl ?_
    exact sn_xpos P hc XS hL T bp (oa 0) (by rw [XS.2.1 0 (by omega), sn_o1 (by omega)]) (by omega) (hn ht)
end SNO
end
section
section SNP
/-! X: the parse -/
def sn_XD (g : sn_G) (dK dV dO dC en : Nat → Int32) : Prop :=
  sn_XS g.2.1 g.2.2.2.2.1 g.2.2.2.2.2.1 g.2.2.2.2.2.2.2.1 g.2.2.2.2.2.2.2.2.1 dK dV dO dC ∧ ∀ k, k < g.2.2.1 → en k = nI (g.2.2.2.1 k)
def sn_XK (post : Int32 → SX → Prop) (f_capacity f_historyCap f_length f_caret f_selStart f_bodyLength f_undoDepth f_merge f_itemCount f_baseLength f_basePos f_activeStop f_selected : Int32) (a_text a_body a_history a_itemKind a_itemValue a_openAt a_closeAt a_base a_typedLength a_typedText a_trialLength : Nat → Int32) (r : Option sn_G) : Prop :=
  (r = none → ∀ (dc de ra : Int32) (dK dV dO dC en : Nat → Int32), post 0 (f_capacity, f_historyCap, f_length, f_caret, f_selStart, f_bodyLength, f_undoDepth, f_merge, f_itemCount, f_baseLength, f_basePos, f_activeStop, f_selected, dc, de, ra, a_text, a_body, a_history, a_itemKind, a_itemValue, a_openAt, a_closeAt, a_base, a_typedLength, a_typedText, dK, dV, dO, dC, en, a_trialLength)) ∧
  (∀ g : sn_G, r = some g → ∀ dK dV dO dC en : Nat → Int32, sn_XD g dK dV dO dC en → post 1 (f_capacity, f_historyCap, f_length, f_caret, f_selStart, f_bodyLength, f_undoDepth, f_merge, f_itemCount, f_baseLength, f_basePos, f_activeStop, f_selected, nI g.2.1, nI g.2.2.1, nI g.1, a_text, a_body, a_history, a_itemKind, a_itemValue, a_openAt, a_closeAt, a_base, a_typedLength, a_typedText, dK, dV, dO, dC, en, a_trialLength))
variable {f_capacity f_historyCap f_length f_caret f_selStart f_bodyLength f_undoDepth f_merge f_itemCount f_baseLength f_basePos f_activeStop f_selected f_draftCount f_depth f_readAt : Int32} {a_text a_body a_history a_itemKind a_itemValue a_openAt a_closeAt a_base a_typedLength a_typedText a_draftKind a_draftValue a_draftOpenAt a_draftCloseAt a_enclosing a_trialLength : Nat → Int32}
variable {post : Int32 → SX → Prop} {n : Nat} {g : sn_G}
theorem sn_XKn {r : Option sn_G} (h : sn_XK post f_capacity f_historyCap f_length f_caret f_selStart f_bodyLength f_undoDepth f_merge f_itemCount f_baseLength f_basePos f_activeStop f_selected a_text a_body a_history a_itemKind a_itemValue a_openAt a_closeAt a_base a_typedLength a_typedText a_trialLength r) : sn_XK (fun r u => match u with | (f_capacity, f_historyCap, f_length, f_caret, f_selStart, f_bodyLength, f_undoDepth, f_merge, f_itemCount, f_baseLength, f_basePos, f_activeStop, f_selected, f_draftCount, f_depth, f_readAt, a_text, a_body, a_history, a_itemKind, a_itemValue, a_openAt, a_closeAt, a_base, a_typedLength, a_typedText, a_draftKind, a_draftValue, a_draftOpenAt, a_draftCloseAt, a_enclosing, a_trialLength) => (narrow .boolean (.int r) = .int r ∧ (post r (f_capacity, f_historyCap, f_length, f_caret, f_selStart, f_bodyLength, f_undoDepth, f_merge, f_itemCount, f_baseLength, f_basePos, f_activeStop, f_selected, f_draftCount, f_depth, f_readAt, a_text, a_body, a_history, a_itemKind, a_itemValue, a_openAt, a_closeAt, a_base, a_typedLength, a_typedText, a_draftKind, a_draftValue, a_draftOpenAt, a_draftCloseAt, a_enclosing, a_trialLength)))) f_capacity f_historyCap f_length f_caret f_selStart f_bodyLength f_undoDepth f_merge f_itemCount f_baseLength f_basePos f_activeStop f_selected a_text a_body a_history a_itemKind a_itemValue a_openAt a_closeAt a_base a_typedLength a_typedText a_trialLength r :=
  ⟨fun e dc de ra dK dV dO dC en => ⟨rfl, h.1 e dc de ra dK dV dO dC en⟩, fun g e dK dV dO dC en D => ⟨rfl, h.2 g e dK dV dO dC en D⟩⟩
theorem sn_xadd {post : SX → Prop} {x0 x1 x2 : Int32} (c i w : Nat) (hc : c < 65) (e2 : x2 = nI w) (h : post (f_capacity, f_historyCap, f_length, f_caret, f_selStart, f_bodyLength, f_undoDepth, f_merge, f_itemCount, f_baseLength, f_basePos, f_activeStop, f_selected, nI (c + 1), f_depth, nI (i + w), a_text, a_body, a_history, a_itemKind, a_itemValue, a_openAt, a_closeAt, a_base, a_typedLength, a_typedText, upd a_draftKind c x0, upd a_draftValue c x1, a_draftOpenAt, a_draftCloseAt, a_enclosing, a_trialLength)) :
    wpX_addItem post (f_capacity, f_historyCap, f_length, f_caret, f_selStart, f_bodyLength, f_undoDepth, f_merge, f_itemCount, f_baseLength, f_basePos, f_activeStop, f_selected, nI c, f_depth, nI i, a_text, a_body, a_history, a_itemKind, a_itemValue, a_openAt, a_closeAt, a_base, a_typedLength, a_typedText, a_draftKind, a_draftValue, a_draftOpenAt, a_draftCloseAt, a_enclosing, a_trialLength) x0 x1 x2 := by
  subst e2
  refine br_f (nI_ge (b := 65) (by omega) (by omega)) ⟨vp_in_nI (by omega) (by omega), fun y ey => ⟨vp_in_nI (by omega) (by omega), fun z ez a ea b eb => ?_⟩⟩
  rw [nI_clamp (by omega)] at ey ez
  rw [nI_1] at ea
  rw [nI_add] at eb
  subst ey ez ea eb
  exact h
theorem sn_xMir {x0 x1 x2 : Int32} (s k w : Nat) (e0 : x0 = nI s) (e1 : x1 = nI k) (e2 : x2 = nI w) (hs : s ≤ 9) (GI : sn_GI n g) (D : sn_XD g a_draftKind a_draftValue a_draftOpenAt a_draftCloseAt a_enclosing)
    (h : sn_XK post f_capacity f_historyCap f_length f_caret f_selStart f_bodyLength f_undoDepth f_merge f_itemCount f_baseLength f_basePos f_activeStop f_selected a_text a_body a_history a_itemKind a_itemValue a_openAt a_closeAt a_base a_typedLength a_typedText a_trialLength (sn_gMir s k w g)) : wpX_addMirror post (f_capacity, f_historyCap, f_length, f_caret, f_selStart, f_bodyLength, f_undoDepth, f_merge, f_itemCount, f_baseLength, f_basePos, f_activeStop, f_selected, nI g.2.1, nI g.2.2.1, nI g.1, a_text, a_body, a_history, a_itemKind, a_itemValue, a_openAt, a_closeAt, a_base, a_typedLength, a_typedText, a_draftKind, a_draftValue, a_draftOpenAt, a_draftCloseAt, a_enclosing, a_trialLength) x0 x1 x2 := by
  subst e0 e1
  obtain ⟨i, c, d, st, K, V, S, oa, ca, sg, dp, pa⟩ := g
  obtain ⟨P, g1, g2, g3, g4⟩ := GI
  dsimp only at P g1 g2 g4
  have oc := sn_oac P.2.2.2.1 s
  have h0 := P.1
  by_cases z : 0 < d
  · exact br_t (nI_lt (a := 0) (b := d) z (by omega)) (h.1 (if_pos (Or.inl z)) _ _ _ _ _ _ _ _)
  · refine br_f (fun y => z ((nI_ltI (a := 0) (b := d) (by omega) (by omega)).mp y)) ?_
    by_cases s0 : s = 0
    · exact br_t (by rw [s0]; rfl) (h.1 (if_pos (Or.inr (Or.inl s0))) _ _ _ _ _ _ _ _)
    · refine br_f (sn_ne s0 (by omega) (by omega)) ⟨vp_in_nI (by omega) (by omega), ?_⟩
      rw [nI_clamp (show s < 2 ^ 31 by omega), D.1.2.1 s hs]
      by_cases oz : oa s = 1000
      · exact br_t (sn_o0 oz) (h.1 (if_pos (Or.inr (Or.inr oz))) _ _ _ _ _ _ _ _)
      · refine br_f (fun y => oz ((sn_oM (by omega)).mp y)) ?_
        refine sn_xadd c i w (by omega) e2 ?_
        refine h.2 _ (if_neg (fun y => ?_)) _ _ _ _ _ ⟨sn_xA D.1, D.2⟩
        rcases y with y | y | y
        · exact z y
        · exact s0 y
        · exact oz y
theorem sn_xFin {x0 : Int32} (w : Nat) (e0 : x0 = nI w) (GI : sn_GI n g) (D : sn_XD g a_draftKind a_draftValue a_draftOpenAt a_draftCloseAt a_enclosing)
    (h : sn_XK post f_capacity f_historyCap f_length f_caret f_selStart f_bodyLength f_undoDepth f_merge f_itemCount f_baseLength f_basePos f_activeStop f_selected a_text a_body a_history a_itemKind a_itemValue a_openAt a_closeAt a_base a_typedLength a_typedText a_trialLength (sn_gFin w g)) : wpX_addFinal post (f_capacity, f_historyCap, f_length, f_caret, f_selStart, f_bodyLength, f_undoDepth, f_merge, f_itemCount, f_baseLength, f_basePos, f_activeStop, f_selected, nI g.2.1, nI g.2.2.1, nI g.1, a_text, a_body, a_history, a_itemKind, a_itemValue, a_openAt, a_closeAt, a_base, a_typedLength, a_typedText, a_draftKind, a_draftValue, a_draftOpenAt, a_draftCloseAt, a_enclosing, a_trialLength) x0 := by
  obtain ⟨i, c, d, st, K, V, S, oa, ca, sg, dp, pa⟩ := g
  obtain ⟨P, g1, g2, g3, g4⟩ := GI
  dsimp only at P g1 g2 g4
  have oc := sn_oac P.2.2.2.1 0
  have h0 := P.1
  have d0 : a_draftOpenAt 0 = sn_o (oa 0) := D.1.2.1 0 (by omega)
  by_cases z : 0 < d
  · exact br_t (nI_lt (a := 0) (b := d) z (by omega)) (h.1 (if_pos (Or.inl z)) _ _ _ _ _ _ _ _)
  · refine br_f (fun y => z ((nI_ltI (a := 0) (b := d) (by omega) (by omega)).mp y)) ?_
    by_cases oz : oa 0 = 1000
    · refine br_t (by rw [d0, sn_o0 oz]) ?_
      intro y ey u eu
      subst ey eu
      refine sn_xadd c i w (by omega) e0 ?_
      refine h.2 _ (if_neg (fun y => ?_)) _ _ _ _ _ ⟨?_, D.2⟩
      · rcases y with y | y
        · exact z y
        · exact y oz
      · exact sn_xA (sn_xC (sn_xO D.1 (by omega)) (by omega))
    · exact br_f (fun y => oz ((sn_oM (by omega)).mp (by rw [← d0]; exact y))) (h.1 (if_pos (Or.inr oz)) _ _ _ _ _ _ _ _)
theorem sn_xRef {x0 x1 : Int32} (s w : Nat) (e0 : x0 = nI s) (e1 : x1 = nI w) (hs : s ≤ 9) (GI : sn_GI n g) (D : sn_XD g a_draftKind a_draftValue a_draftOpenAt a_draftCloseAt a_enclosing) (h2 : 2 ≤ w) (hn : sn_gI g + w ≤ n)
    (h : sn_XK post f_capacity f_historyCap f_length f_caret f_selStart f_bodyLength f_undoDepth f_merge f_itemCount f_baseLength f_basePos f_activeStop f_selected a_text a_body a_history a_itemKind a_itemValue a_openAt a_closeAt a_base a_typedLength a_typedText a_trialLength (sn_gRef s w g)) : wpX_addReference post (f_capacity, f_historyCap, f_length, f_caret, f_selStart, f_bodyLength, f_undoDepth, f_merge, f_itemCount, f_baseLength, f_basePos, f_activeStop, f_selected, nI g.2.1, nI g.2.2.1, nI g.1, a_text, a_body, a_history, a_itemKind, a_itemValue, a_openAt, a_closeAt, a_base, a_typedLength, a_typedText, a_draftKind, a_draftValue, a_draftOpenAt, a_draftCloseAt, a_enclosing, a_trialLength) x0 x1 := by
  subst e0
  unfold sn_gRef at h
  by_cases s0 : s = 0
  · rw [if_pos s0] at h
    exact br_t (by rw [s0]; rfl) (sn_xFin w e1 GI D (sn_XKn h))
  · rw [if_neg s0] at h
    refine br_f (sn_ne s0 (by omega) (by omega)) ⟨vp_in_nI (by omega) (by omega), ?_⟩
    rw [nI_clamp (show s < 2 ^ 31 by omega)]
    have o1 : a_draftOpenAt s = sn_o (sn_go g s) := D.1.2.1 s hs
    have oc : sn_go g s = 1000 ∨ sn_go g s < g.2.1 := sn_oac GI.1.2.2.2.1 s
    have h0 : g.2.1 < 1000 := GI.1.1
    by_cases oz : sn_go g s = 1000
    · rw [if_pos oz] at h
      refine br_t (by rw [o1, sn_o0 oz]) ⟨vp_in_nI (by omega) (by omega), fun y ey => ?_⟩
      subst ey
      obtain ⟨i, c, d, st, K, V, S, oa, ca, sg, dp, pa⟩ := g
      obtain ⟨P, g1, g2, g3, g4⟩ := GI
      dsimp only at P g1 g2 g4 h0
      have hn' : i + w ≤ n := hn
      refine sn_xadd c i w (by omega) e1 ?_
      refine ⟨vp_in_nI (by omega) (by omega), fun y ey => ?_⟩
      subst ey
      refine sn_xadd (c + 1) (i + w) 0 (by omega) rfl ?_
      refine h.2 _ rfl _ _ _ _ _ ⟨?_, fun k hk => ?_⟩
      · have es : sn_u st d s d = s := sn_us
        have q := sn_xA (k := 2) (v := nI s) (sn_xC (s := s) (y := c + 1) (sn_xA (k := 1) (v := nI s) (sn_xO (s := s) (y := c) D.1 (by omega))) (by omega))
        show sn_XS (c + 1 + 1) (sn_u (sn_u K c 1) (c + 1) 2) (upd (upd V c (nI s)) (c + 1) (nI (sn_u st d s (d + 1 - 1)))) (sn_u oa s c) (sn_u ca (sn_u st d s (d + 1 - 1)) (c + 1)) _ _ _ _
        rw [Nat.add_sub_cancel, es]
        exact q
      · have hk' : k < d + 1 - 1 := hk
        show a_enclosing k = nI (sn_u st d s k)
        rw [sn_un (by omega)]
        exact D.2 k (by omega : k < d)
    · rw [if_neg oz] at h
      refine br_f (fun y => oz ((sn_oM (by omega)).mp (by rw [← o1]; exact y))) ?_
      exact sn_xMir s 4 w rfl rfl e1 hs GI D (sn_XKn h)
theorem sn_xOpn {x0 : Int32} (s : Nat) (e0 : x0 = nI s) (hs : s ≤ 9) (GI : sn_GI n g) (D : sn_XD g a_draftKind a_draftValue a_draftOpenAt a_draftCloseAt a_enclosing) (hn : sn_gI g + 4 ≤ n)
    (h : sn_XK post f_capacity f_historyCap f_length f_caret f_selStart f_bodyLength f_undoDepth f_merge f_itemCount f_baseLength f_basePos f_activeStop f_selected a_text a_body a_history a_itemKind a_itemValue a_openAt a_closeAt a_base a_typedLength a_typedText a_trialLength (sn_gOpn s g)) : wpX_openPlaceholder post (f_capacity, f_historyCap, f_length, f_caret, f_selStart, f_bodyLength, f_undoDepth, f_merge, f_itemCount, f_baseLength, f_basePos, f_activeStop, f_selected, nI g.2.1, nI g.2.2.1, nI g.1, a_text, a_body, a_history, a_itemKind, a_itemValue, a_openAt, a_closeAt, a_base, a_typedLength, a_typedText, a_draftKind, a_draftValue, a_draftOpenAt, a_draftCloseAt, a_enclosing, a_trialLength) x0 := by
  subst e0
  obtain ⟨i, c, d, st, K, V, S, oa, ca, sg, dp, pa⟩ := g
  obtain ⟨P, g1, g2, g3, g4⟩ := GI
  dsimp only at P g1 g2 g4
  have oc := sn_oac P.2.2.2.1 s
  have h0 := P.1
  have hn' : i + 4 ≤ n := hn
  by_cases s0 : s = 0
  · exact br_t (by rw [s0]; rfl) (h.1 (if_pos (Or.inl s0)) _ _ _ _ _ _ _ _)
  · refine br_f (sn_ne s0 (by omega) (by omega)) ⟨vp_in_nI (by omega) (by omega), ?_⟩
    rw [nI_clamp (show s < 2 ^ 31 by omega), D.1.2.1 s hs]
    by_cases oz : oa s = 1000
    · refine br_t (sn_o0 oz) ?_
      by_cases d4 : 4 ≤ d
      · exact br_f (nI_nlt (a := d) (b := 4) d4 (by omega)) (h.1 (if_pos (Or.inr (Or.inr d4))) _ _ _ _ _ _ _ _)
      · refine br_t (nI_lt (a := d) (b := 4) (by omega) (by omega)) ⟨vp_in_nI (n := d) (by omega) (by omega), fun y ey z ez => ⟨vp_in_nI (by omega) (by omega), fun u eu => ?_⟩⟩
        rw [nI_clamp (show d < 2 ^ 31 by omega)] at ey
        rw [nI_1] at ez
        subst ey ez eu
        refine sn_xadd c i 4 (by omega) rfl ?_
        refine h.2 _ (if_neg (fun y => ?_)) _ _ _ _ _ ⟨sn_xA (sn_xO D.1 (by omega)), fun k hk => ?_⟩
        · rcases y with y | y | y
          · exact s0 y
          · exact y oz
          · exact d4 y
        · have hk' : k < d + 1 := hk
          show upd a_enclosing d (nI s) k = nI (sn_u st d s k)
          by_cases e : k = d
          · rw [e, pk_us, sn_us]
          · rw [pk_un e, sn_un e]; exact D.2 k (by omega : k < d)
    · exact br_f (fun y => oz ((sn_oM (by omega)).mp y)) (h.1 (if_pos (Or.inr (Or.inl oz))) _ _ _ _ _ _ _ _)
theorem sn_xCls (GI : sn_GI n g) (D : sn_XD g a_draftKind a_draftValue a_draftOpenAt a_draftCloseAt a_enclosing) (hn : sn_gI g < n)
    (h : sn_XK post f_capacity f_historyCap f_length f_caret f_selStart f_bodyLength f_undoDepth f_merge f_itemCount f_baseLength f_basePos f_activeStop f_selected a_text a_body a_history a_itemKind a_itemValue a_openAt a_closeAt a_base a_typedLength a_typedText a_trialLength (sn_gCls g)) : wpX_readClose post (f_capacity, f_historyCap, f_length, f_caret, f_selStart, f_bodyLength, f_undoDepth, f_merge, f_itemCount, f_baseLength, f_basePos, f_activeStop, f_selected, nI g.2.1, nI g.2.2.1, nI g.1, a_text, a_body, a_history, a_itemKind, a_itemValue, a_openAt, a_closeAt, a_base, a_typedLength, a_typedText, a_draftKind, a_draftValue, a_draftOpenAt, a_draftCloseAt, a_enclosing, a_trialLength) := by
  obtain ⟨i, c, d, st, K, V, S, oa, ca, sg, dp, pa⟩ := g
  obtain ⟨P, g1, g2, g3, g4⟩ := GI
  dsimp only at P g1 g2 g4
  have h0 := P.1
  have hn' : i < n := hn
  by_cases z : d = 0
  · exact br_t (by rw [z]; rfl) (h.1 (if_pos z) _ _ _ _ _ _ _ _)
  · refine br_f (sn_ne (a := d) z (by omega) (by omega)) (fun y ey => ?_)
    rw [sn_sb d 1 (by omega) rfl] at ey
    subst ey
    have q := P.2.2.2.2.2.1.1 (d - 1) (by omega)
    refine ⟨vp_in_nI (by omega) (by omega), fun u eu => ?_⟩
    rw [nI_clamp (by omega), D.2 (d - 1) (by omega : d - 1 < d)] at eu
    subst eu
    refine ⟨vp_in_nI (n := st (d - 1)) (by omega) (by omega), fun v ev => ?_⟩
    rw [nI_clamp (n := st (d - 1)) (by omega)] at ev
    subst ev
    refine sn_xadd c i 1 (by omega) rfl ?_
    refine h.2 _ (if_neg z) _ _ _ _ _ ⟨sn_xA (sn_xC D.1 (by omega)), fun k hk => ?_⟩
    have hk' : k < d - 1 := hk
    exact D.2 k (by omega : k < d)
end SNP
end
section
section SNQ
/-! X: the parse, reading -/
variable {f_capacity f_historyCap f_length f_caret f_selStart f_bodyLength f_undoDepth f_merge f_itemCount f_baseLength f_basePos f_activeStop f_selected f_draftCount f_depth f_readAt : Int32} {a_text a_body a_history a_itemKind a_itemValue a_openAt a_closeAt a_base a_typedLength a_typedText a_draftKind a_draftValue a_draftOpenAt a_draftCloseAt a_enclosing a_trialLength : Nat → Int32}
variable {post : Int32 → SX → Prop} {n : Nat} {g : sn_G}
theorem sn_xbc {post : Int32 → Prop} {x0 : Int32} (i : Nat) (e0 : x0 = nI i) (hi : i < 1000) (hn : n ≤ 64) (h : post (sn_chr a_body n i)) : wpX_bodyCharAt post (f_capacity, f_historyCap, f_length, f_caret, f_selStart, nI n, f_undoDepth, f_merge, f_itemCount, f_baseLength, f_basePos, f_activeStop, f_selected, f_draftCount, f_depth, f_readAt, a_text, a_body, a_history, a_itemKind, a_itemValue, a_openAt, a_closeAt, a_base, a_typedLength, a_typedText, a_draftKind, a_draftValue, a_draftOpenAt, a_draftCloseAt, a_enclosing, a_trialLength) x0 := by
  subst e0
  unfold sn_chr at h
  refine br_f (nI_pos (by omega)) ?_
  by_cases z : i < n
  · rw [if_pos z] at h
    refine br_t (nI_lt z (by omega)) ⟨vp_in_nI (by omega) (by omega), ?_⟩
    rw [nI_clamp (by omega)]; exact h
  · rw [if_neg z] at h
    exact br_f (nI_nlt (by omega) (by omega)) h
theorem sn_xdig {post : Int32 → Prop} {x : Int32} (h1 : 48 ≤ x ∧ x ≤ 57 → post 1) (h0 : ¬ (48 ≤ x ∧ x ≤ 57) → post 0) : wpX_isDigit post x := by
  by_cases a : x < 48
  · exact br_t a (h0 (fun z => absurd a (Int32.not_lt.mpr z.1)))
  · by_cases b : 57 < x
    · exact br_f a (br_t b (h0 (fun z => absurd b (Int32.not_lt.mpr z.2))))
    · exact br_f a (br_f b (h1 ⟨Int32.not_lt.mp a, Int32.not_lt.mp b⟩))
theorem sn_xtk {post : Int32 → Prop} {x : Int32} (h1 : sn_tk x ≠ 0 → post (nI (sn_tk x))) (h0 : sn_tk x = 0 → post (-1)) : wpX_transformKind post x := by
  unfold sn_tk at h1 h0
  by_cases a : x = 99
  · refine br_t a ?_
    rw [if_neg (by rw [a]; decide), if_neg (by rw [a]; decide), if_pos a] at h1
    exact h1 (by omega)
  · refine br_f a ?_
    by_cases b : x = 108
    · refine br_t b ?_
      rw [if_neg (by rw [b]; decide), if_pos b] at h1
      exact h1 (by omega)
    · refine br_f b ?_
      by_cases c : x = 117
      · refine br_t c ?_
        rw [if_pos c] at h1
        exact h1 (by omega)
      · refine br_f c ?_
        rw [if_neg c, if_neg b, if_neg a] at h0
        exact h0 rfl
theorem sn_xEsc (GI : sn_GI n g) (D : sn_XD g a_draftKind a_draftValue a_draftOpenAt a_draftCloseAt a_enclosing) (hn : sn_gI g < n) (h : sn_XK post f_capacity f_historyCap f_length f_caret f_selStart (nI n) f_undoDepth f_merge f_itemCount f_baseLength f_basePos f_activeStop f_selected a_text a_body a_history a_itemKind a_itemValue a_openAt a_closeAt a_base a_typedLength a_typedText a_trialLength (sn_gEsc a_body n g)) : wpX_readEscaped post (f_capacity, f_historyCap, f_length, f_caret, f_selStart, nI n, f_undoDepth, f_merge, f_itemCount, f_baseLength, f_basePos, f_activeStop, f_selected, nI g.2.1, nI g.2.2.1, nI g.1, a_text, a_body, a_history, a_itemKind, a_itemValue, a_openAt, a_closeAt, a_base, a_typedLength, a_typedText, a_draftKind, a_draftValue, a_draftOpenAt, a_draftCloseAt, a_enclosing, a_trialLength) := by
  have n64 := GI.2.2.2.1
  have c65 : g.2.1 < 65 := by
    have a := GI.2.1
    have b : g.1 < n := hn
    omega
  have hg : sn_gI g = g.1 := rfl
  unfold wpX_readEscaped
  refine sn_xbc (sn_gI g + 1) (nI_1 _) (by omega) n64 ?_
  unfold sn_gEsc at h
  have J : (sn_chr a_body n (sn_gI g + 1)) = 36 ∨ (sn_chr a_body n (sn_gI g + 1)) = 92 ∨ (sn_chr a_body n (sn_gI g + 1)) = 125 → wX_readEscaped_31 post (sn_chr a_body n (sn_gI g + 1)) f_capacity f_historyCap f_length f_caret f_selStart (nI n) f_undoDepth f_merge f_itemCount f_baseLength f_basePos f_activeStop f_selected (nI g.2.1) (nI g.2.2.1) (nI g.1) a_text a_body a_history a_itemKind a_itemValue a_openAt a_closeAt a_base a_typedLength a_typedText a_draftKind a_draftValue a_draftOpenAt a_draftCloseAt a_enclosing a_trialLength := by
    intro q
    refine sn_xadd g.2.1 g.1 2 c65 rfl ?_
    refine h.2 _ (if_pos q) _ _ _ _ _ ?_
    obtain ⟨i, c, d, st, K, V, S, oa, ca, sg, dp, pa⟩ := g
    exact ⟨sn_xA D.1, D.2⟩
  by_cases a : (sn_chr a_body n (sn_gI g + 1)) = 36
  · exact br_t a (J (Or.inl a))
  · refine br_f a ?_
    by_cases b : (sn_chr a_body n (sn_gI g + 1)) = 92
    · exact br_t b (J (Or.inr (Or.inl b)))
    · refine br_f b ?_
      by_cases c : (sn_chr a_body n (sn_gI g + 1)) = 125
      · exact br_t c (J (Or.inr (Or.inr c)))
      · refine br_f c (h.1 (if_neg (fun q => ?_)) _ _ _ _ _ _ _ _)
        rcases q with q | q | q
        · exact a q
        · exact b q
        · exact c q
theorem sn_xTr {x0 : Int32} (s : Nat) (e0 : x0 = nI s) (hs : s ≤ 9) (GI : sn_GI n g) (D : sn_XD g a_draftKind a_draftValue a_draftOpenAt a_draftCloseAt a_enclosing) (hn : sn_gI g < n) (h : sn_XK post f_capacity f_historyCap f_length f_caret f_selStart (nI n) f_undoDepth f_merge f_itemCount f_baseLength f_basePos f_activeStop f_selected a_text a_body a_history a_itemKind a_itemValue a_openAt a_closeAt a_base a_typedLength a_typedText a_trialLength (sn_gTr a_body n s g)) : wpX_readTransform post (f_capacity, f_historyCap, f_length, f_caret, f_selStart, nI n, f_undoDepth, f_merge, f_itemCount, f_baseLength, f_basePos, f_activeStop, f_selected, nI g.2.1, nI g.2.2.1, nI g.1, a_text, a_body, a_history, a_itemKind, a_itemValue, a_openAt, a_closeAt, a_base, a_typedLength, a_typedText, a_draftKind, a_draftValue, a_draftOpenAt, a_draftCloseAt, a_enclosing, a_trialLength) x0 := by
  have n64 := GI.2.2.2.1
  have hg : sn_gI g = g.1 := rfl
  unfold sn_gTr at h
  unfold wpX_readTransform
  refine sn_xbc (sn_gI g + 4) (sn_ad _ 4 rfl) (by omega) n64 ?_
  refine sn_xtk (fun z => ?_) (fun z => ?_)
  · have tb := sn_tkB (sn_chr a_body n (sn_gI g + 4))
    refine br_f (sn_nm1 (by omega)) ?_
    refine sn_xbc (sn_gI g + 5) (sn_ad _ 5 rfl) (by omega) n64 ?_
    by_cases y : (sn_chr a_body n (sn_gI g + 5)) = 125
    · rw [if_neg (fun q => by rcases q with q | q; exact z q; exact q y)] at h
      exact br_t y (sn_xMir s (sn_tk (sn_chr a_body n (sn_gI g + 4))) 6 e0 rfl rfl hs GI D (sn_XKn h))
    · exact br_f y (h.1 (if_pos (Or.inr y)) _ _ _ _ _ _ _ _)
  · exact br_t rfl (h.1 (if_pos (Or.inl z)) _ _ _ _ _ _ _ _)
theorem sn_xStp (GI : sn_GI n g) (D : sn_XD g a_draftKind a_draftValue a_draftOpenAt a_draftCloseAt a_enclosing) (hn : sn_gI g < n) (h : sn_XK post f_capacity f_historyCap f_length f_caret f_selStart (nI n) f_undoDepth f_merge f_itemCount f_baseLength f_basePos f_activeStop f_selected a_text a_body a_history a_itemKind a_itemValue a_openAt a_closeAt a_base a_typedLength a_typedText a_trialLength (sn_gStp a_body n g)) : wpX_readStop post (f_capacity, f_historyCap, f_length, f_caret, f_selStart, nI n, f_undoDepth, f_merge, f_itemCount, f_baseLength, f_basePos, f_activeStop, f_selected, nI g.2.1, nI g.2.2.1, nI g.1, a_text, a_body, a_history, a_itemKind, a_itemValue, a_openAt, a_closeAt, a_base, a_typedLength, a_typedText, a_draftKind, a_draftValue, a_draftOpenAt, a_draftCloseAt, a_enclosing, a_trialLength) := by
  have n64 := GI.2.2.2.1
  have hg : sn_gI g = g.1 := rfl
  unfold sn_gStp at h
  unfold wpX_readStop
  refine sn_xbc (sn_gI g + 1) (nI_1 _) (by omega) n64 ?_
  refine sn_xdig (fun z => ?_) (fun z => ?_)
  · have d9 := sn_dg9 z.1 z.2
    have q : sn_gI g + 1 < n := sn_chrN (b := a_body) (sn_dgN z.1)
    rw [if_pos z] at h
    exact br_f (by decide) (sn_xRef (sn_dg (sn_chr a_body n (sn_gI g + 1))) 2 d9.2.2 rfl d9.2.1 GI D (by omega) (by omega) (sn_XKn h))
  · rw [if_neg z] at h
    refine br_t rfl ?_
    refine sn_xbc (sn_gI g + 2) (sn_ad _ 2 rfl) (by omega) n64 ?_
    by_cases c1 : (sn_chr a_body n (sn_gI g + 1)) = 123
    · refine br_t c1 ?_
      refine sn_xdig (fun y => ?_) (fun y => ?_)
      · have d9 := sn_dg9 y.1 y.2
        rw [if_pos ⟨c1, y.1, y.2⟩] at h
        unfold sn_gBr at h
        refine br_f (by decide) (fun x ex => ?_)
        have ex' : x = nI (sn_dg (sn_chr a_body n (sn_gI g + 2))) := by rw [ex]; exact d9.2.2
        refine sn_xbc (sn_gI g + 3) (sn_ad _ 3 rfl) (by omega) n64 ?_
        by_cases k47 : (sn_chr a_body n (sn_gI g + 3)) = 47
        · rw [if_neg (by rw [k47]; decide), if_neg (by rw [k47]; decide), if_pos k47] at h
          exact br_t k47 (sn_xTr _ ex' d9.2.1 GI D hn (sn_XKn h))
        · refine br_f k47 ?_
          by_cases k58 : (sn_chr a_body n (sn_gI g + 3)) = 58
          · have q : sn_gI g + 3 < n := sn_chrN (b := a_body) (fun w => by rw [w] at k58; exact absurd k58 (by decide))
            rw [if_neg (by rw [k58]; decide), if_pos k58] at h
            exact br_t k58 (sn_xOpn _ ex' d9.2.1 GI D (by omega) (sn_XKn h))
          · refine br_f k58 ?_
            by_cases k125 : (sn_chr a_body n (sn_gI g + 3)) = 125
            · have q : sn_gI g + 3 < n := sn_chrN (b := a_body) (fun w => by rw [w] at k125; exact absurd k125 (by decide))
              rw [if_pos k125] at h
              exact br_t k125 (sn_xRef _ 4 ex' rfl d9.2.1 GI D (by omega) (by omega) (sn_XKn h))
            · rw [if_neg k125, if_neg k58, if_neg k47] at h
              exact br_f k125 (h.1 rfl _ _ _ _ _ _ _ _)
      · rw [if_neg (fun w => y w.2)] at h
        exact br_t rfl (h.1 rfl _ _ _ _ _ _ _ _)
    · rw [if_neg (fun w => c1 w.1)] at h
      exact br_f c1 (h.1 rfl _ _ _ _ _ _ _ _)
theorem sn_x94 (GI : sn_GI n g) (D : sn_XD g a_draftKind a_draftValue a_draftOpenAt a_draftCloseAt a_enclosing) (h : sn_XK post f_capacity f_historyCap f_length f_caret f_selStart (nI n) f_undoDepth f_merge f_itemCount f_baseLength f_basePos f_activeStop f_selected a_text a_body a_history a_itemKind a_itemValue a_openAt a_closeAt a_base a_typedLength a_typedText a_trialLength (sn_end g)) : wX_parseBody_94 post 1 f_capacity f_historyCap f_length f_caret f_selStart (nI n) f_undoDepth f_merge f_itemCount f_baseLength f_basePos f_activeStop f_selected (nI g.2.1) (nI g.2.2.1) (nI g.1) a_text a_body a_history a_itemKind a_itemValue a_openAt a_closeAt a_base a_typedLength a_typedText a_draftKind a_draftValue a_draftOpenAt a_draftCloseAt a_enclosing a_trialLength := by
  unfold sn_end at h
  have h0 := GI.1.1
  have g4 := GI.2.2.2.2
  have oc := sn_oac GI.1.2.2.2.1 0
  have d0 : a_draftOpenAt 0 = sn_o (sn_go g 0) := D.1.2.1 0 (by omega)
  have ob : sn_go g 0 ≤ 1000 := by
    have : sn_go g 0 = 1000 ∨ sn_go g 0 < g.2.1 := oc
    omega
  refine br_f (by decide) ?_
  by_cases z : 0 < sn_gd g
  · exact br_f (nI_nle z (by have : sn_gd g ≤ 4 := g4; omega)) (h.1 (if_pos z) _ _ _ _ _ _ _ _)
  · rw [if_neg z] at h
    have e0 : g.2.2.1 = 0 := by
      have : ¬ 0 < g.2.2.1 := z
      omega
    refine br_t (by rw [e0]; decide) ?_
    by_cases y : sn_go g 0 = 1000
    · rw [if_pos y] at h
      refine br_t (by rw [d0, sn_o0 y]) ?_
      refine sn_xFin 0 rfl GI D ?_
      unfold sn_gFin
      rw [if_neg (fun w => by rcases w with w | w; exact z w; exact w y)]
      exact ⟨fun e => absurd e (by simp), fun g' e dK dV dO dC en D' => h.2 g' e dK dV dO dC en D'⟩
    · rw [if_neg y] at h
      exact br_f (fun w => y ((sn_oM ob).mp (by rw [← d0]; exact w))) (h.2 g rfl _ _ _ _ _ D)
theorem sn_x94f (h : post 0 (f_capacity, f_historyCap, f_length, f_caret, f_selStart, f_bodyLength, f_undoDepth, f_merge, f_itemCount, f_baseLength, f_basePos, f_activeStop, f_selected, f_draftCount, f_depth, f_readAt, a_text, a_body, a_history, a_itemKind, a_itemValue, a_openAt, a_closeAt, a_base, a_typedLength, a_typedText, a_draftKind, a_draftValue, a_draftOpenAt, a_draftCloseAt, a_enclosing, a_trialLength)) : wX_parseBody_94 post 0 f_capacity f_historyCap f_length f_caret f_selStart f_bodyLength f_undoDepth f_merge f_itemCount f_baseLength f_basePos f_activeStop f_selected f_draftCount f_depth f_readAt a_text a_body a_history a_itemKind a_itemValue a_openAt a_closeAt a_base a_typedLength a_typedText a_draftKind a_draftValue a_draftOpenAt a_draftCloseAt a_enclosing a_trialLength := br_t rfl h
theorem sn_x8f {x2 : Int32} {m : Nat} (h : post 0 (f_capacity, f_historyCap, f_length, f_caret, f_selStart, f_bodyLength, f_undoDepth, f_merge, f_itemCount, f_baseLength, f_basePos, f_activeStop, f_selected, f_draftCount, f_depth, f_readAt, a_text, a_body, a_history, a_itemKind, a_itemValue, a_openAt, a_closeAt, a_base, a_typedLength, a_typedText, a_draftKind, a_draftValue, a_draftOpenAt, a_draftCloseAt, a_enclosing, a_trialLength)) : wX_parseBody_8 post (m + 1) 0 x2 f_capacity f_historyCap f_length f_caret f_selStart f_bodyLength f_undoDepth f_merge f_itemCount f_baseLength f_basePos f_activeStop f_selected f_draftCount f_depth f_readAt a_text a_body a_history a_itemKind a_itemValue a_openAt a_closeAt a_base a_typedLength a_typedText a_draftKind a_draftValue a_draftOpenAt a_draftCloseAt a_enclosing a_trialLength := by
  by_cases z : 64 ≤ x2
  · exact br_t z (sn_x94f h)
  · exact br_f z (br_t rfl (sn_x94f h))
theorem sn_x8 : ∀ (k m s : Nat) (g : sn_G), s + k = 64 → k < m → sn_GI n g → ∀ (a_draftKind a_draftValue a_draftOpenAt a_draftCloseAt a_enclosing : Nat → Int32), sn_XD g a_draftKind a_draftValue a_draftOpenAt a_draftCloseAt a_enclosing →
    sn_XK post f_capacity f_historyCap f_length f_caret f_selStart (nI n) f_undoDepth f_merge f_itemCount f_baseLength f_basePos f_activeStop f_selected a_text a_body a_history a_itemKind a_itemValue a_openAt a_closeAt a_base a_typedLength a_typedText a_trialLength ((sn_run a_body n k g).bind sn_end) → wX_parseBody_8 post m 1 (nI s) f_capacity f_historyCap f_length f_caret f_selStart (nI n) f_undoDepth f_merge f_itemCount f_baseLength f_basePos f_activeStop f_selected (nI g.2.1) (nI g.2.2.1) (nI g.1) a_text a_body a_history a_itemKind a_itemValue a_openAt a_closeAt a_base a_typedLength a_typedText a_draftKind a_draftValue a_draftOpenAt a_draftCloseAt a_enclosing a_trialLength := by
  intro k
  induction k with
  | zero =>
    intro m s g hs hm GI a_draftKind a_draftValue a_draftOpenAt a_draftCloseAt a_enclosing D h
    obtain ⟨m, rfl⟩ : ∃ j, m = j + 1 := ⟨m - 1, by omega⟩
    obtain rfl : s = 64 := by omega
    exact br_t (by decide) (sn_x94 GI D h)
  | succ k ih =>
    intro m s g hs hm GI a_draftKind a_draftValue a_draftOpenAt a_draftCloseAt a_enclosing D h
    obtain ⟨m, rfl⟩ : ∃ j, m = j + 1 := ⟨m - 1, by omega⟩
    have n64 := GI.2.2.2.1
    have hg : sn_gI g = g.1 := rfl
    have gn : g.1 ≤ n := GI.2.2.1
    rw [sn_run] at h
    refine br_f (nI_ge (a := s) (b := 64) (by omega) (by omega)) (br_f (by decide) ?_)
    by_cases z : sn_gI g < n
    · rw [if_pos z] at h
      have cont : ∀ r : Option sn_G, sn_gStep a_body n g = r → sn_XK (fun r u => match u with | (f_capacity, f_historyCap, f_length, f_caret, f_selStart, f_bodyLength, f_undoDepth, f_merge, f_itemCount, f_baseLength, f_basePos, f_activeStop, f_selected, f_draftCount, f_depth, f_readAt, a_text, a_body, a_history, a_itemKind, a_itemValue, a_openAt, a_closeAt, a_base, a_typedLength, a_typedText, a_draftKind, a_draftValue, a_draftOpenAt, a_draftCloseAt, a_enclosing, a_trialLength) => ∀ y : Int32, y = nI s + 1 → wX_parseBody_8 post m r y f_capacity f_historyCap f_length f_caret f_selStart f_bodyLength f_undoDepth f_merge f_itemCount f_baseLength f_basePos f_activeStop f_selected f_draftCount f_depth f_readAt a_text a_body a_history a_itemKind a_itemValue a_openAt a_closeAt a_base a_typedLength a_typedText a_draftKind a_draftValue a_draftOpenAt a_draftCloseAt a_enclosing a_trialLength) f_capacity f_historyCap f_length f_caret f_selStart (nI n) f_undoDepth f_merge f_itemCount f_baseLength f_basePos f_activeStop f_selected a_text a_body a_history a_itemKind a_itemValue a_openAt a_closeAt a_base a_typedLength a_typedText a_trialLength r := by
        intro r er
        obtain ⟨m, rfl⟩ : ∃ j, m = j + 1 := ⟨m - 1, by omega⟩
        refine ⟨fun e dc de ra dK dV dO dC en y ey => ?_, fun g' e dK dV dO dC en D' y ey => ?_⟩
        · exact sn_x8f (h.1 (by rw [er, e]; rfl) dc de ra dK dV dO dC en)
        · rw [ey, nI_1]
          refine ih (m + 1) (s + 1) g' (by omega) (by omega) (sn_stepI GI z (by rw [er, e])) dK dV dO dC en D' ?_
          rw [er, e] at h
          exact h
      unfold sn_gStep at cont
      refine br_f (nI_ge (by omega) (by omega)) ⟨vp_in_nI (by omega) (by omega), fun x ex => ?_⟩
      rw [nI_clamp (by omega)] at ex
      have ex' : x = a_body (sn_gI g) := ex
      subst ex'
      by_cases b92 : a_body (sn_gI g) = 92
      · exact br_t b92 (sn_xEsc GI D z (cont _ (if_pos b92)))
      · rw [if_neg b92] at cont
        refine br_f b92 ?_
        by_cases b36 : a_body (sn_gI g) = 36
        · exact br_t b36 (sn_xStp GI D z (cont _ (if_pos b36)))
        · rw [if_neg b36] at cont
          refine br_f b36 ?_
          by_cases b125 : a_body (sn_gI g) = 125
          · exact br_t b125 (sn_xCls GI D z (cont _ (if_pos b125)))
          · rw [if_neg b125] at cont
            refine br_f b125 ?_
            have c65 : g.2.1 < 65 := by
              have a := GI.2.1
              omega
            refine sn_xadd g.2.1 g.1 1 c65 rfl ?_
            refine (cont _ rfl).2 _ rfl _ _ _ _ _ ?_
            obtain ⟨i, c, d, st, K, V, S, oa, ca, sg, dp, pa⟩ := g
            exact ⟨sn_xA D.1, D.2⟩
    · rw [if_neg z] at h
      exact br_t (nI_le (by omega) (by omega)) (sn_x94 GI D h)
theorem sn_xsd {post : SX → Prop} (h : ∀ dO dC : Nat → Int32, (∀ s, s ≤ 9 → dO s = -1) → (∀ s, s ≤ 9 → dC s = -1) → post (f_capacity, f_historyCap, f_length, f_caret, f_selStart, f_bodyLength, f_undoDepth, f_merge, f_itemCount, f_baseLength, f_basePos, f_activeStop, f_selected, 0, 0, 0, a_text, a_body, a_history, a_itemKind, a_itemValue, a_openAt, a_closeAt, a_base, a_typedLength, a_typedText, a_draftKind, a_draftValue, dO, dC, a_enclosing, a_trialLength)) : wpX_startDraft post (f_capacity, f_historyCap, f_length, f_caret, f_selStart, f_bodyLength, f_undoDepth, f_merge, f_itemCount, f_baseLength, f_basePos, f_activeStop, f_selected, f_draftCount, f_depth, f_readAt, a_text, a_body, a_history, a_itemKind, a_itemValue, a_openAt, a_closeAt, a_base, a_typedLength, a_typedText, a_draftKind, a_draftValue, a_draftOpenAt, a_draftCloseAt, a_enclosing, a_trialLength) := by
  have go : ∀ m i k (dO dC : Nat → Int32), i + m = 10 → m < k → (∀ s, s < i → dO s = -1) → (∀ s, s < i → dC s = -1) → wX_startDraft_17 post f_capacity f_historyCap f_length f_caret f_selStart f_bodyLength f_undoDepth f_merge f_itemCount f_baseLength f_basePos f_activeStop f_selected 0 0 0 k (nI i) a_text a_body a_history a_itemKind a_itemValue a_openAt a_closeAt a_base a_typedLength a_typedText a_draftKind a_draftValue dO dC a_enclosing a_trialLength := by
    intro m
    induction m with
    | zero =>
      intro i k dO dC hi hk h1 h2
      obtain ⟨k, rfl⟩ : ∃ j, k = j + 1 := ⟨k - 1, by omega⟩
      obtain rfl : i = 10 := by omega
      exact br_t (by decide) (h dO dC (fun s hs => h1 s (by omega)) (fun s hs => h2 s (by omega)))
    | succ m ih =>
      intro i k dO dC hi hk h1 h2
      obtain ⟨k, rfl⟩ : ∃ j, k = j + 1 := ⟨k - 1, by omega⟩
      refine br_f (nI_ge (a := i) (b := 10) (by omega) (by omega)) ⟨vp_in_nI (by omega) (by omega), fun y ey => ⟨vp_in_nI (by omega) (by omega), fun z ez u eu => ?_⟩⟩
      rw [nI_clamp (by omega)] at ey ez
      rw [nI_1] at eu
      subst ey ez eu
      refine ih (i + 1) k _ _ (by omega) (by omega) (fun s hs => ?_) (fun s hs => ?_)
      · by_cases e : s = i
        · rw [e, pk_us]
        · rw [pk_un e]; exact h1 s (by omega)
      · by_cases e : s = i
        · rw [e, pk_us]
        · rw [pk_un e]; exact h2 s (by omega)
  exact ⟨11, go 10 0 11 _ _ (by omega) (by omega) (fun s hs => absurd hs (by omega)) (fun s hs => absurd hs (by omega))⟩
theorem sn_xpb (hn : n ≤ 64) (h : sn_XK post f_capacity f_historyCap f_length f_caret f_selStart (nI n) f_undoDepth f_merge f_itemCount f_baseLength f_basePos f_activeStop f_selected a_text a_body a_history a_itemKind a_itemValue a_openAt a_closeAt a_base a_typedLength a_typedText a_trialLength (sn_pp a_body n)) : wpX_parseBody post (f_capacity, f_historyCap, f_length, f_caret, f_selStart, nI n, f_undoDepth, f_merge, f_itemCount, f_baseLength, f_basePos, f_activeStop, f_selected, f_draftCount, f_depth, f_readAt, a_text, a_body, a_history, a_itemKind, a_itemValue, a_openAt, a_closeAt, a_base, a_typedLength, a_typedText, a_draftKind, a_draftValue, a_draftOpenAt, a_draftCloseAt, a_enclosing, a_trialLength) := by
  unfold wpX_parseBody
  refine sn_xsd (fun dO dC h1 h2 => ?_)
  refine ⟨65, sn_x8 64 65 0 sn_g0 (by omega) (by omega) (sn_GI0 hn) _ _ _ _ _ ⟨⟨fun x hx => absurd hx (Nat.not_lt_zero _), fun s hs => ?_, fun s hs => ?_⟩, fun k hk => absurd hk (Nat.not_lt_zero _)⟩ h⟩
  · rw [h1 s hs]; rfl
  · rw [h2 s hs]; rfl
end SNQ
end
section
section SNY
/-! X: the rest of its private methods -/
variable {K S oa ca sg dp pa st : Nat → Nat} {V : Nat → Int32} {c : Nat}
def sn_sh (t : Nat → Int32) (k l : Nat) : Nat → Int32 := fun j => if k < j ∧ j ≤ l then t (j - 1) else t j
theorem sn_sh0 (t : Nat → Int32) (l : Nat) : sn_sh t l l = t := by
  funext j; unfold sn_sh; exact if_neg (by omega)
theorem sn_shS (t : Nat → Int32) (i l : Nat) (h : i + 1 ≤ l) : upd (sn_sh t (i + 1) l) (i + 1) (sn_sh t (i + 1) l i) = sn_sh t i l := by
  funext j; unfold sn_sh upd
  dsimp only
  by_cases z : j = i + 1
  · rw [if_pos z, if_neg (by omega), if_pos (by omega), z, Nat.add_sub_cancel]
  · rw [if_neg z]
    by_cases y : i + 1 < j ∧ j ≤ l
    · rw [if_pos y, if_pos (by omega)]
    · rw [if_neg y, if_neg (by omega)]
def sn_L0 : Nat → Int32 := fun _ => -1
theorem sn_hid0 {f x : Nat} : ¬ sn_hid oa ca sn_L0 f x := fun ⟨_, _, _, h, _⟩ => h rfl
theorem sn_LL0 : sn_LL sn_L0 := fun _ _ => Or.inl rfl
theorem sn_clamp {post : Int32 → Prop} {x lo hi : Int32} (a b : Nat) (ea : lo = nI a) (eb : hi = nI b) (hab : a ≤ b) (hb : b < 1000) (h : ∀ y : Nat, a ≤ y → y ≤ b → (¬ lo ≤ x → y = a) → (lo ≤ x → ¬ x ≤ hi → y = b) → (lo ≤ x → x ≤ hi → x = nI y) → post (nI y)) : wpX_clamp post x lo hi := by
  subst ea eb
  by_cases z : nI a ≤ x
  · by_cases w : x ≤ nI b
    · obtain ⟨y, hy, e⟩ := nI_of (x := x) (fun q => absurd (Int32.lt_of_le_of_lt z q) (nI_pos (by omega)))
      have h1 : a ≤ y := (nI_leI (by omega) hy).mp (by rw [← e]; exact z)
      have h2 : y ≤ b := (nI_leI hy (by omega)).mp (by rw [← e]; exact w)
      have q := h y h1 h2 (fun q => absurd z q) (fun _ q => absurd w q) (fun _ _ => e)
      rw [← e] at q
      exact br_t z (br_t w q)
    · exact br_t z (br_f w (h b hab (Nat.le_refl _) (fun q => absurd z q) (fun _ _ => rfl) (fun _ q => absurd q w)))
  · exact br_f z (h a (Nat.le_refl _) hab (fun _ => rfl) (fun q => absurd q z) (fun q => absurd q z))
variable {f_capacity f_historyCap f_length f_caret f_selStart f_bodyLength f_undoDepth f_merge f_itemCount f_baseLength f_basePos f_activeStop f_selected f_draftCount f_depth f_readAt : Int32} {a_text a_body a_history a_itemKind a_itemValue a_openAt a_closeAt a_base a_typedLength a_typedText a_draftKind a_draftValue a_draftOpenAt a_draftCloseAt a_enclosing a_trialLength : Nat → Int32}
theorem sn_xclr {post : SX → Prop} (h : ∀ L : Nat → Int32, (∀ s, s ≤ 9 → L s = -1) → post (f_capacity, f_historyCap, f_length, f_caret, f_selStart, f_bodyLength, f_undoDepth, f_merge, f_itemCount, f_baseLength, f_basePos, f_activeStop, f_selected, f_draftCount, f_depth, f_readAt, a_text, a_body, a_history, a_itemKind, a_itemValue, a_openAt, a_closeAt, a_base, L, a_typedText, a_draftKind, a_draftValue, a_draftOpenAt, a_draftCloseAt, a_enclosing, a_trialLength)) : wpX_clearTyped post (f_capacity, f_historyCap, f_length, f_caret, f_selStart, f_bodyLength, f_undoDepth, f_merge, f_itemCount, f_baseLength, f_basePos, f_activeStop, f_selected, f_draftCount, f_depth, f_readAt, a_text, a_body, a_history, a_itemKind, a_itemValue, a_openAt, a_closeAt, a_base, a_typedLength, a_typedText, a_draftKind, a_draftValue, a_draftOpenAt, a_draftCloseAt, a_enclosing, a_trialLength) := by
  have go : ∀ m j k (L : Nat → Int32), j + m = 10 → m < k → (∀ s, s < j → L s = -1) → wX_clearTyped_2 post f_capacity f_historyCap f_length f_caret f_selStart f_bodyLength f_undoDepth f_merge f_itemCount f_baseLength f_basePos f_activeStop f_selected f_draftCount f_depth f_readAt k (nI j) a_text a_body a_history a_itemKind a_itemValue a_openAt a_closeAt a_base L a_typedText a_draftKind a_draftValue a_draftOpenAt a_draftCloseAt a_enclosing a_trialLength := by
    intro m
    induction m with
    | zero =>
      intro j k L hi hk h1
      obtain ⟨k, rfl⟩ : ∃ q, k = q + 1 := ⟨k - 1, by omega⟩
      obtain rfl : j = 10 := by omega
      exact br_t (by decide) (h L (fun s hs => h1 s (by omega)))
    | succ m ih =>
      intro j k L hi hk h1
      obtain ⟨k, rfl⟩ : ∃ q, k = q + 1 := ⟨k - 1, by omega⟩
      refine br_f (nI_ge (a := j) (b := 10) (by omega) (by omega)) ⟨vp_in_nI (by omega) (by omega), fun y ey u eu => ?_⟩
      rw [nI_clamp (by omega)] at ey
      rw [nI_1] at eu
      subst ey eu
      refine ih (j + 1) k _ (by omega) (by omega) (fun s hs => ?_)
      by_cases e : s = j
      · rw [e, pk_us]
      · rw [pk_un e]; exact h1 s (by omega)
  exact ⟨11, go 10 0 11 _ (by omega) (by omega) (fun s hs => absurd hs (by omega))⟩
theorem sn_xdl {post : Int32 → Prop} {x1 x2 : Int32} (P : sn_PI c 0 st K V S oa ca sg dp pa) (hc : c ≤ 65) (XS : sn_XS c K V oa ca a_draftKind a_draftValue a_draftOpenAt a_draftCloseAt) (T : Nat → Int32) (f l : Nat) (e1 : x1 = nI f) (e2 : x2 = nI l) (hfl : f ≤ l) (hl : l ≤ c)
    (hp : post (nI (sn_sp K V S oa ca sn_L0 T f (l - f)).length)) : wpX_draftLiterals post (f_capacity, f_historyCap, f_length, f_caret, f_selStart, f_bodyLength, f_undoDepth, f_merge, f_itemCount, f_baseLength, f_basePos, f_activeStop, f_selected, f_draftCount, f_depth, f_readAt, a_text, a_body, a_history, a_itemKind, a_itemValue, a_openAt, a_closeAt, a_base, a_typedLength, a_typedText, a_draftKind, a_draftValue, a_draftOpenAt, a_draftCloseAt, a_enclosing, a_trialLength) x1 x2 := by
  subst e1 e2
  have go : ∀ m i n, i + m = l → f ≤ i → m < n → wX_draftLiterals_5 post (nI l) f_capacity f_historyCap f_length f_caret f_selStart f_bodyLength f_undoDepth f_merge f_itemCount f_baseLength f_basePos f_activeStop f_selected f_draftCount f_depth f_readAt a_text a_body a_history a_itemKind a_itemValue a_openAt a_closeAt a_base a_typedLength a_typedText a_draftKind a_draftValue a_draftOpenAt a_draftCloseAt a_enclosing a_trialLength n (nI (sn_sp K V S oa ca sn_L0 T f (i - f)).length) (nI i) := by
    intro m
    induction m with
    | zero =>
      intro i n hi hf hn
      obtain ⟨n, rfl⟩ : ∃ k, n = k + 1 := ⟨n - 1, by omega⟩
      obtain rfl : i = l := by omega
      exact br_t (nI_le (Nat.le_refl _) (by omega)) hp
    | succ m ih =>
      intro i n hi hf hn
      obtain ⟨n, rfl⟩ : ∃ k, n = k + 1 := ⟨n - 1, by omega⟩
      have hic : i < c := by omega
      have e1 : sn_sp K V S oa ca sn_L0 T f (i + 1 - f) = sn_sp K V S oa ca sn_L0 T f (i - f) ++ sn_out K V S oa ca sn_L0 T f i := by
        rw [show i + 1 - f = (i - f) + 1 by omega, sn_sp, show f + (i - f) = i by omega]
      have K7 : K i ≤ 7 := by rcases P.2.2.2.2.1 i hic with a | a | a | a | a <;> omega
      have w := ih (i + 1) n (by omega) (by omega) (by omega)
      refine br_f (nI_ge (by omega) (by omega)) ⟨vp_in_nI (by omega) (by omega), ?_⟩
      rw [nI_clamp (by omega), (XS.1 i hic).1]
      by_cases k0 : K i = 0
      · refine br_t (by rw [k0]; rfl) (fun a ea b eb => ?_)
        rw [e1, sn_out0 sn_hid0 k0, sn_len1] at w
        rw [ea, eb, nI_1, nI_1]; exact w
      · refine br_f (sn_ne k0 (by omega) (by omega)) (fun b eb => ?_)
        rw [e1, sn_out2 k0 (fun z => z.2 rfl), List.append_nil] at w
        rw [eb, nI_1]; exact w
  have w := go (l - f) f (l - f + 1) (by omega) (Nat.le_refl _) (by omega)
  rw [Nat.sub_self] at w
  exact ⟨_, w⟩
theorem sn_xudl {post : Int32 → Prop} (P : sn_PI c 0 st K V S oa ca sg dp pa) (hc : c ≤ 65) (XS : sn_XS c K V oa ca a_draftKind a_draftValue a_draftOpenAt a_draftCloseAt) (T : Nat → Int32)
    (hp : post (nI (sn_rr K V S oa ca sn_L0 T c).length)) : wpX_untypedDraftLength post (f_capacity, f_historyCap, f_length, f_caret, f_selStart, f_bodyLength, f_undoDepth, f_merge, f_itemCount, f_baseLength, f_basePos, f_activeStop, f_selected, nI c, f_depth, f_readAt, a_text, a_body, a_history, a_itemKind, a_itemValue, a_openAt, a_closeAt, a_base, a_typedLength, a_typedText, a_draftKind, a_draftValue, a_draftOpenAt, a_draftCloseAt, a_enclosing, a_trialLength) := by
  rw [sn_rrL] at hp
  unfold wpX_untypedDraftLength
  refine sn_xdl P hc XS T 0 c rfl rfl (Nat.zero_le _) (Nat.le_refl _) ?_
  have go : ∀ m i n, i + m = c → m < n → wX_untypedDraftLength_12 post f_capacity f_historyCap f_length f_caret f_selStart f_bodyLength f_undoDepth f_merge f_itemCount f_baseLength f_basePos f_activeStop f_selected (nI c) f_depth f_readAt a_text a_body a_history a_itemKind a_itemValue a_openAt a_closeAt a_base a_typedLength a_typedText a_draftKind a_draftValue a_draftOpenAt a_draftCloseAt a_enclosing a_trialLength n (nI ((sn_sp K V S oa ca sn_L0 T 0 c).length + sn_ms K V S oa ca sn_L0 T i)) (nI i) := by
    intro m
    induction m with
    | zero =>
      intro i n hi hn
      obtain ⟨n, rfl⟩ : ∃ k, n = k + 1 := ⟨n - 1, by omega⟩
      obtain rfl : i = c := by omega
      exact br_t (nI_le (Nat.le_refl _) (by omega)) hp
    | succ m ih =>
      intro i n hi hn
      obtain ⟨n, rfl⟩ : ∃ k, n = k + 1 := ⟨n - 1, by omega⟩
      have hic : i < c := by omega
      have ck : (nI i).toNatClampNeg = i := nI_clamp (by omega)
      have v65 : vp_in (nI i) 65 := vp_in_nI (by omega) (by omega)
      have K7 : K i ≤ 7 := by rcases P.2.2.2.2.1 i hic with a | a | a | a | a <;> omega
      have w := ih (i + 1) n (by omega) (by omega)
      rw [sn_ms] at w
      refine br_f (nI_ge (by omega) (by omega)) ⟨v65, ?_⟩
      rw [ck, (XS.1 i hic).1, (XS.1 i hic).2]
      by_cases k4 : K i < 4
      · rw [if_neg (by omega), Nat.add_zero] at w
        exact br_t (nI_lt (b := 4) k4 (by omega)) (br_t rfl (fun y ey => by rw [ey, nI_1]; exact w))
      · rw [if_pos (by omega)] at w
        have q : 1 ≤ S i ∧ S i ≤ 9 ∧ oa (S i) < ca (S i) ∧ ca (S i) < c := by
          have h0 := P.1
          rcases P.2.2.2.2.1 i hic with a | a | a | a | a
          · omega
          · omega
          · omega
          · omega
          · rcases sn_clo P (S i) with b | b | b <;> omega
        have h0 := P.1
        have vv : V i = nI (S i) := P.2.2.1 i hic (by omega)
        have cs : (nI (S i)).toNatClampNeg = S i := nI_clamp (by omega)
        have v10 : vp_in (nI (S i)) 10 := vp_in_nI (by omega) (by omega)
        refine br_f (nI_nlt (b := 4) (by omega) (by omega)) (br_f (by decide) ⟨v65, fun v ev => ?_⟩)
        rw [vv] at ev
        subst ev
        refine ⟨v10, v10, ?_⟩
        rw [cs]
        refine sn_xdl P hc XS T (oa (S i)) (ca (S i)) (by rw [XS.2.1 _ q.2.1, sn_o1 (by omega)]) (by rw [XS.2.2 _ q.2.1, sn_o1 (by omega)]) (by omega) (by omega) ?_
        intro a ea d ed
        rw [ea, ed, nI_1, nI_add, Nat.add_assoc]
        exact w
  exact ⟨_, go c 0 (c + 1) (by omega) (by omega)⟩
theorem sn_xadopt {post : SX → Prop} (hc : c ≤ 65) (XS : sn_XS c K V oa ca a_draftKind a_draftValue a_draftOpenAt a_draftCloseAt)
    (h : ∀ ik iv op cl, sn_XS c K V oa ca ik iv op cl → post (f_capacity, f_historyCap, f_length, f_caret, f_selStart, f_bodyLength, f_undoDepth, f_merge, nI c, f_baseLength, f_basePos, f_activeStop, f_selected, nI c, f_depth, f_readAt, a_text, a_body, a_history, ik, iv, op, cl, a_base, a_typedLength, a_typedText, a_draftKind, a_draftValue, a_draftOpenAt, a_draftCloseAt, a_enclosing, a_trialLength)) : wpX_adoptDraft post (f_capacity, f_historyCap, f_length, f_caret, f_selStart, f_bodyLength, f_undoDepth, f_merge, f_itemCount, f_baseLength, f_basePos, f_activeStop, f_selected, nI c, f_depth, f_readAt, a_text, a_body, a_history, a_itemKind, a_itemValue, a_openAt, a_closeAt, a_base, a_typedLength, a_typedText, a_draftKind, a_draftValue, a_draftOpenAt, a_draftCloseAt, a_enclosing, a_trialLength) := by
  unfold wpX_adoptDraft
  refine sn_xc_draftKind_itemKind 0 0 c rfl rfl rfl (by omega) (by omega) ?_
  refine sn_xc_draftValue_itemValue 0 0 c rfl rfl rfl (by omega) (by omega) ?_
  refine sn_xc_draftOpenAt_openAt 0 0 10 rfl rfl rfl (by omega) (by omega) ?_
  refine sn_xc_draftCloseAt_closeAt 0 0 10 rfl rfl rfl (by omega) (by omega) ?_
  refine h _ _ _ _ ⟨fun x hx => ?_, fun s hs => ?_, fun s hs => ?_⟩
  · have a := sn_cpI (a := a_draftKind) (b := a_itemKind) (p := 0) (q := 0) (n := c) (j := x) hx
    have b := sn_cpI (a := a_draftValue) (b := a_itemValue) (p := 0) (q := 0) (n := c) (j := x) hx
    rw [Nat.zero_add] at a b
    rw [a, b]; exact XS.1 x hx
  · have a := sn_cpI (a := a_draftOpenAt) (b := a_openAt) (p := 0) (q := 0) (n := 10) (j := s) (by omega)
    rw [Nat.zero_add] at a
    rw [a]; exact XS.2.1 s hs
  · have a := sn_cpI (a := a_draftCloseAt) (b := a_closeAt) (p := 0) (q := 0) (n := 10) (j := s) (by omega)
    rw [Nat.zero_add] at a
    rw [a]; exact XS.2.2 s hs
theorem sn_xkeep {post : SX → Prop} (l : Nat) (hl : l ≤ 64) (h : post (f_capacity, f_historyCap, nI l, f_caret, f_selStart, f_bodyLength, f_undoDepth, f_merge, f_itemCount, nI l, f_caret, f_activeStop, f_selected, f_draftCount, f_depth, f_readAt, a_text, a_body, a_history, a_itemKind, a_itemValue, a_openAt, a_closeAt, sn_cp a_text 0 a_base 0 l, a_typedLength, a_typedText, a_draftKind, a_draftValue, a_draftOpenAt, a_draftCloseAt, a_enclosing, a_trialLength)) : wpX_keepBase post (f_capacity, f_historyCap, nI l, f_caret, f_selStart, f_bodyLength, f_undoDepth, f_merge, f_itemCount, f_baseLength, f_basePos, f_activeStop, f_selected, f_draftCount, f_depth, f_readAt, a_text, a_body, a_history, a_itemKind, a_itemValue, a_openAt, a_closeAt, a_base, a_typedLength, a_typedText, a_draftKind, a_draftValue, a_draftOpenAt, a_draftCloseAt, a_enclosing, a_trialLength) := by
  unfold wpX_keepBase
  exact sn_xc_text_base 0 0 l rfl rfl rfl (by omega) (by omega) h
theorem sn_xfit {post : Int32 → SX → Prop} {x0 x1 : Int32} (P : sn_PI c 0 st K V S oa ca sg dp pa) (hc : c ≤ 65) (XS : sn_XS c K V oa ca a_itemKind a_itemValue a_openAt a_closeAt) (hL : sn_LL a_typedLength) (T : Nat → Int32) (a nl cap bl : Nat) (e0 : x0 = nI a) (e1 : x1 = nI nl) (ha : a ≤ 9) (hnl : nl ≤ 8) (hcap : cap ≤ 64) (hbl : bl ≤ 64)
    (h1 : bl + (sn_rr K V S oa ca (upd a_typedLength a (nI nl)) T c).length ≤ cap → ∀ tr, post 1 (nI cap, f_historyCap, f_length, f_caret, f_selStart, f_bodyLength, f_undoDepth, f_merge, nI c, nI bl, f_basePos, f_activeStop, f_selected, f_draftCount, f_depth, f_readAt, a_text, a_body, a_history, a_itemKind, a_itemValue, a_openAt, a_closeAt, a_base, a_typedLength, a_typedText, a_draftKind, a_draftValue, a_draftOpenAt, a_draftCloseAt, a_enclosing, tr))
    (h0 : cap < bl + (sn_rr K V S oa ca (upd a_typedLength a (nI nl)) T c).length → ∀ tr, post 0 (nI cap, f_historyCap, f_length, f_caret, f_selStart, f_bodyLength, f_undoDepth, f_merge, nI c, nI bl, f_basePos, f_activeStop, f_selected, f_draftCount, f_depth, f_readAt, a_text, a_body, a_history, a_itemKind, a_itemValue, a_openAt, a_closeAt, a_base, a_typedLength, a_typedText, a_draftKind, a_draftValue, a_draftOpenAt, a_draftCloseAt, a_enclosing, tr)) :
    wpX_fitsTyped post (nI cap, f_historyCap, f_length, f_caret, f_selStart, f_bodyLength, f_undoDepth, f_merge, nI c, nI bl, f_basePos, f_activeStop, f_selected, f_draftCount, f_depth, f_readAt, a_text, a_body, a_history, a_itemKind, a_itemValue, a_openAt, a_closeAt, a_base, a_typedLength, a_typedText, a_draftKind, a_draftValue, a_draftOpenAt, a_draftCloseAt, a_enclosing, a_trialLength) x0 x1 := by
  subst e0 e1
  unfold wpX_fitsTyped
  refine sn_xc_typedLength_trialLength 0 0 10 rfl rfl rfl (by omega) (by omega) ?_
  refine ⟨vp_in_nI (by omega) (by omega), fun y ey => ?_⟩
  rw [nI_clamp (by omega)] at ey
  subst ey
  have eq : ∀ s, s ≤ 9 → upd (sn_cp a_typedLength 0 a_trialLength 0 10) a (nI nl) s = upd a_typedLength a (nI nl) s := by
    intro s hs
    by_cases e : s = a
    · rw [e, pk_us, pk_us]
    · have q := sn_cpI (a := a_typedLength) (b := a_trialLength) (p := 0) (q := 0) (n := 10) (j := s) (by omega)
      rw [Nat.zero_add] at q
      rw [pk_un e, pk_un e, q]
  have LL2 : sn_LL (upd a_typedLength a (nI nl)) := by
    intro s hs
    by_cases e : s = a
    · rw [e, pk_us]; exact Or.inr ⟨nl, hnl, rfl⟩
    · rw [pk_un e]; exact hL s hs
  have LL3 : sn_LL (upd (sn_cp a_typedLength 0 a_trialLength 0 10) a (nI nl)) := by
    intro s hs
    rw [eq s hs]; exact LL2 s hs
  have ln := sn_rrLC (V := V) (T := T) (T' := T) (x := c) P eq (Nat.le_refl c)
  have lb := sn_rrB' (V := V) (T := T) (x := c) P hc (sn_LL8 LL2) (Nat.le_refl c)
  refine sn_xlb_trialLength P hc XS LL3 T c rfl (Nat.le_refl c) ?_
  rw [ln]
  show (_ → _) ∧ (_ → _)
  rw [nI_add]
  by_cases z : cap < bl + (sn_rr K V S oa ca (upd a_typedLength a (nI nl)) T c).length
  · exact br_t (nI_lt z (by omega)) (h0 z _)
  · exact br_f (nI_nlt (by omega) (by omega)) (h1 (by omega) _)
theorem sn_xtac {post : Int32 → SX → Prop} (x : Int32) (k l : Nat) (hk : k ≤ l) (hl : l < 64) (h : post 0 (f_capacity, f_historyCap, nI (l + 1), nI (k + 1), nI (k + 1), f_bodyLength, f_undoDepth, 1, f_itemCount, f_baseLength, f_basePos, f_activeStop, f_selected, f_draftCount, f_depth, f_readAt, upd (sn_sh a_text k l) k x, a_body, a_history, a_itemKind, a_itemValue, a_openAt, a_closeAt, a_base, a_typedLength, a_typedText, a_draftKind, a_draftValue, a_draftOpenAt, a_draftCloseAt, a_enclosing, a_trialLength)) :
    ∃ n, wX_typeAtCaret_30 post x f_capacity f_historyCap (nI l) (nI k) f_selStart f_bodyLength f_undoDepth f_merge f_itemCount f_baseLength f_basePos f_activeStop f_selected f_draftCount f_depth f_readAt n (nI l) a_text a_body a_history a_itemKind a_itemValue a_openAt a_closeAt a_base a_typedLength a_typedText a_draftKind a_draftValue a_draftOpenAt a_draftCloseAt a_enclosing a_trialLength := by
  have go : ∀ m i n, k + m = i → i ≤ l → m < n → wX_typeAtCaret_30 post x f_capacity f_historyCap (nI l) (nI k) f_selStart f_bodyLength f_undoDepth f_merge f_itemCount f_baseLength f_basePos f_activeStop f_selected f_draftCount f_depth f_readAt n (nI i) (sn_sh a_text i l) a_body a_history a_itemKind a_itemValue a_openAt a_closeAt a_base a_typedLength a_typedText a_draftKind a_draftValue a_draftOpenAt a_draftCloseAt a_enclosing a_trialLength := by
    intro m
    induction m with
    | zero =>
      intro i n hi hil hn
      obtain ⟨n, rfl⟩ : ∃ k, n = k + 1 := ⟨n - 1, by omega⟩
      obtain rfl : i = k := by omega
      refine br_t (nI_le (Nat.le_refl _) (by omega)) ⟨vp_in_nI (by omega) (by omega), fun y ey z ez => ?_⟩
      rw [nI_clamp (by omega)] at ey
      rw [nI_1] at ez
      subst ey ez
      show post _ _
      rw [nI_1]
      exact h
    | succ m ih =>
      intro i n hi hil hn
      obtain ⟨n, rfl⟩ : ∃ k, n = k + 1 := ⟨n - 1, by omega⟩
      obtain ⟨j, rfl⟩ : ∃ j, i = j + 1 := ⟨i - 1, by omega⟩
      refine br_f (nI_ge (by omega) (by omega)) ?_
      rw [nI_pred]
      refine ⟨vp_in_nI (by omega) (by omega), vp_in_nI (by omega) (by omega), fun y ey z ez => ?_⟩
      rw [nI_clamp (by omega), nI_clamp (by omega), sn_shS _ _ _ hil] at ey
      rw [ey, ez, pk_m1]
      exact ih j n (by omega) (by omega) (by omega)
  have w := go (l - k) l (l - k + 1) (by omega) (Nat.le_refl _) (by omega)
  rw [sn_sh0] at w
  exact ⟨_, w⟩
end SNY
end
section
section SNR
/-! Y: hidden, primText -/
variable {K S oa ca sg dp pa st : Nat → Nat} {V L : Nat → Int32} {c : Nat}
/-- what counts as typed -/
def sn_YT (ca' : Int32) (ty tl L : Nat → Int32) : Prop := ∀ s, s ≤ 9 → (L s = -1 ∧ (ca' ≠ 0 ∨ ty s = 0)) ∨ (∃ m : Nat, m ≤ 8 ∧ L s = nI m ∧ ca' = 0 ∧ ty s ≠ 0 ∧ tl s = nI m)
theorem sn_YTL {x : Int32} {ty tl : Nat → Int32} (h : sn_YT x ty tl L) : sn_LL L := by
  intro s hs
  rcases h s hs with a | ⟨m, hm, e, _⟩
  · exact Or.inl a.1
  · exact Or.inr ⟨m, hm, e⟩
theorem sn_sgE (P : sn_PI c 0 st K V S oa ca sg dp pa) {x y : Nat} (hx : x < c) (hy : y < c) (kx : K x ≠ 2) (ky : K y ≠ 2) (e : sg x = sg y) : x = y := by
  by_cases h : x < y
  · have := sn_sgS P.2.1 h (by omega) kx
    omega
  · by_cases h2 : y < x
    · have := sn_sgS P.2.1 h2 (by omega) ky
      omega
    · omega
theorem sn_yp0 {p : Nat} (h : p = 0) : sn_yp sg oa p = -1 := if_pos h
theorem sn_yp1 {p : Nat} (h : p ≠ 0) : sn_yp sg oa p = nI (sg (oa p)) := if_neg h
variable {f_cap f_hcap f_len f_caret f_sel f_bodyLen f_sBodyLen f_merge f_session f_selected f_active f_nItems f_finalIdx f_fromStruct f_baseLen f_baseP f_rlen f_tlen f_clearAll f_svF f_svL f_hCount : Int32} {a_buf a_body a_sBody a_typed a_tLen a_tText a_kind a_val a_stopOf a_par a_ipos a_prim a_stack a_occ a_base a_rbuf a_tbuf a_svT a_hist : Nat → Int32}
theorem sn_yisT {post : Int32 → Prop} {x0 : Int32} (T : sn_YT f_clearAll a_typed a_tLen L) (s : Nat) (e0 : x0 = nI s) (hs : s ≤ 9) (h1 : L s ≠ -1 → post 1) (h0 : L s = -1 → post 0) : wpY_isT post (f_cap, f_hcap, f_len, f_caret, f_sel, f_bodyLen, f_sBodyLen, f_merge, f_session, f_selected, f_active, f_nItems, f_finalIdx, f_fromStruct, f_baseLen, f_baseP, f_rlen, f_tlen, f_clearAll, f_svF, f_svL, f_hCount, a_buf, a_body, a_sBody, a_typed, a_tLen, a_tText, a_kind, a_val, a_stopOf, a_par, a_ipos, a_prim, a_stack, a_occ, a_base, a_rbuf, a_tbuf, a_svT, a_hist) x0 := by
  subst e0
  rcases T s hs with ⟨a, b⟩ | ⟨m, hm, a, b, d, _⟩
  · by_cases z : f_clearAll = 0
    · refine br_t z (br_f (nI_pos (by omega)) (br_f (nI_ge (a := s) (b := 10) (by omega) (by omega)) ⟨vp_in_nI (by omega) (by omega), ?_⟩))
      rw [nI_clamp (by omega)]
      exact br_t (b.resolve_left (fun y => y z)) (h0 a)
    · exact br_f z (h0 a)
  · refine br_t b (br_f (nI_pos (by omega)) (br_f (nI_ge (a := s) (b := 10) (by omega) (by omega)) ⟨vp_in_nI (by omega) (by omega), ?_⟩))
    rw [nI_clamp (by omega)]
    exact br_f d (h1 (by rw [a]; exact sn_nm1 (by omega)))
theorem sn_yhl {post : Int32 → Prop} (P : sn_PI c 0 st K V S oa ca sg dp pa) (hc : c ≤ 65) (Y : sn_YS c K V S oa sg pa f_nItems f_finalIdx a_kind a_val a_stopOf a_par a_prim) (T : sn_YT f_clearAll a_typed a_tLen L) {f : Nat} {top : Int32} :
    ∀ m x j n, dp x = m → x < c → K x ≠ 2 → j + m ≤ 4 → m < n → ((f = 0 ∧ top = -1) ∨ (∃ s, 1 ≤ s ∧ oa s < c ∧ f = oa s + 1 ∧ top = nI (sg (oa s)) ∧ sn_enc oa ca s x)) → (sn_hid oa ca L f x → post 1) → (¬ sn_hid oa ca L f x → post 0) →
      wY_hidden_10 post top f_cap f_hcap f_len f_caret f_sel f_bodyLen f_sBodyLen f_merge f_session f_selected f_active f_nItems f_finalIdx f_fromStruct f_baseLen f_baseP f_rlen f_tlen f_clearAll f_svF f_svL f_hCount a_buf a_body a_sBody a_typed a_tLen a_tText a_kind a_val a_stopOf a_par a_ipos a_prim a_stack a_occ a_base a_rbuf a_tbuf a_svT a_hist n (sn_yp sg oa (pa x)) (nI j) := by
  intro m
  induction m with
  | zero =>
    intro x j n hd hx hk hj hn ht h1 h0
    obtain ⟨n, rfl⟩ : ∃ k, n = k + 1 := ⟨n - 1, by omega⟩
    rcases sn_ch P L hx hk with ⟨p0, nh, _⟩ | ⟨_, _, _, _, a5, _⟩
    · rw [sn_yp0 p0]
      exact br_f (fun y => absurd ((nI_ltI (a := 4) (b := j) (by omega) (by omega)).mp y) (by omega)) (br_t (by decide) (h0 (nh f)))
    · omega
  | succ m ih =>
    intro x j n hd hx hk hj hn ht h1 h0
    obtain ⟨n, rfl⟩ : ∃ k, n = k + 1 := ⟨n - 1, by omega⟩
    refine br_f (fun y => absurd ((nI_ltI (a := 4) (b := j) (by omega) (by omega)).mp y) (by omega)) ?_
    rcases sn_ch P L hx hk with ⟨p0, nh, _⟩ | ⟨a1, a2, a3, a4, a5, a6, a7, a8, a9, a10⟩
    · rw [sn_yp0 p0]
      exact br_t (by decide) (h0 (nh f))
    · have sx := sn_sgx P.2.1 (show oa (pa x) ≤ c by omega)
      rw [sn_yp1 (by omega)]
      refine br_f (nI_pos (by omega)) ?_
      have ys := Y.2.1 (oa (pa x)) (by omega) (by omega)
      have rest : (f ≤ oa (pa x)) → ((f = 0 ∧ top = -1) ∨ (∃ s, 1 ≤ s ∧ oa s < c ∧ f = oa s + 1 ∧ top = nI (sg (oa s)) ∧ sn_enc oa ca s (oa (pa x)))) → vp_in (nI (sg (oa (pa x)))) 72 ∧ wpY_isT (fun r => ((r = 0 → (vp_in (nI (sg (oa (pa x)))) 72 ∧ (∀ x3_51 : Int32, x3_51 = a_par (nI (sg (oa (pa x)))).toNatClampNeg → (∀ x4_52 : Int32, x4_52 = nI j + 1 → (wY_hidden_10 post top f_cap f_hcap f_len f_caret f_sel f_bodyLen f_sBodyLen f_merge f_session f_selected f_active f_nItems f_finalIdx f_fromStruct f_baseLen f_baseP f_rlen f_tlen f_clearAll f_svF f_svL f_hCount a_buf a_body a_sBody a_typed a_tLen a_tText a_kind a_val a_stopOf a_par a_ipos a_prim a_stack a_occ a_base a_rbuf a_tbuf a_svT a_hist n x3_51 x4_52))))) ∧ (¬ r = 0 → (post 1)))) (f_cap, f_hcap, f_len, f_caret, f_sel, f_bodyLen, f_sBodyLen, f_merge, f_session, f_selected, f_active, f_nItems, f_finalIdx, f_fromStruct, f_baseLen, f_baseP, f_rlen, f_tlen, f_clearAll, f_svF, f_svL, f_hCount, a_buf, a_body, a_sBody, a_typed, a_tLen, a_tText, a_kind, a_val, a_stopOf, a_par, a_ipos, a_prim, a_stack, a_occ, a_base, a_rbuf, a_tbuf, a_svT, a_hist) (a_stopOf (nI (sg (oa (pa x)))).toNatClampNeg) := by
        intro hf ht'
        have v72 : vp_in (nI (sg (oa (pa x)))) 72 := vp_in_nI (by omega) (by omega)
        refine ⟨v72, ?_⟩
        rw [nI_clamp (show sg (oa (pa x)) < 2 ^ 31 by omega), ys.1, a8]
        refine sn_yisT T (pa x) rfl a2 (fun z => ?_) (fun z => ?_)
        · exact br_f (by decide) (h1 ((a9 f).mpr ⟨hf, Or.inl z⟩))
        · refine br_t rfl ⟨v72, fun y ey w ew => ?_⟩
          rw [ey, ew, ys.2.1, nI_1]
          refine ih (oa (pa x)) (j + 1) n (by omega) (by omega) (by omega) (by omega) (by omega) ht' (fun y => h1 ((a9 f).mpr ⟨hf, Or.inr y⟩)) (fun y => h0 (fun w => ?_))
          rcases ((a9 f).mp w).2 with u | u
          · exact u z
          · exact y u
      rcases ht with ⟨f0, t0⟩ | ⟨s, s1, s2, s3, s4, s5⟩
      · refine br_f (by rw [t0]; exact sn_nm1 (by omega)) (rest (by omega) (Or.inl ⟨f0, t0⟩))
      · have ks : K (oa s) = 1 ∧ S (oa s) = s := by
          have h0 := P.1
          rcases sn_clo P s with b | b | b
          · omega
          · omega
          · exact ⟨b.2.2.2.2.1, b.2.2.2.2.2.1⟩
        by_cases e : pa x = s
        · refine br_t (by rw [e, s4]) (h0 (fun w => ?_))
          have := ((a9 f).mp w).1
          rw [e] at this
          omega
        · have en : sn_enc oa ca s (oa (pa x)) := (a10 s s5).resolve_left (fun z => e z.symm)
          have en1 := en.1
          refine br_f (fun y => ?_) (rest (by omega) (Or.inr ⟨s, s1, s2, s3, s4, en⟩))
          rw [s4] at y
          have sy := sn_sgx P.2.1 (show oa s ≤ c by omega)
          have e2 := (nI_eq (by omega) (by omega)).mp y
          have e3 := sn_sgE P (by omega) s2 (by omega) (by omega) e2
          omega
theorem sn_yhid {post : Int32 → Prop} {x0 top : Int32} (P : sn_PI c 0 st K V S oa ca sg dp pa) (hc : c ≤ 65) (Y : sn_YS c K V S oa sg pa f_nItems f_finalIdx a_kind a_val a_stopOf a_par a_prim) (T : sn_YT f_clearAll a_typed a_tLen L) (f x : Nat) (e0 : x0 = nI (sg x)) (hx : x < c) (hk : K x ≠ 2)
    (ht : (f = 0 ∧ top = -1) ∨ (∃ s, 1 ≤ s ∧ oa s < c ∧ f = oa s + 1 ∧ top = nI (sg (oa s)) ∧ sn_enc oa ca s x)) (h1 : sn_hid oa ca L f x → post 1) (h0 : ¬ sn_hid oa ca L f x → post 0) : wpY_hidden post (f_cap, f_hcap, f_len, f_caret, f_sel, f_bodyLen, f_sBodyLen, f_merge, f_session, f_selected, f_active, f_nItems, f_finalIdx, f_fromStruct, f_baseLen, f_baseP, f_rlen, f_tlen, f_clearAll, f_svF, f_svL, f_hCount, a_buf, a_body, a_sBody, a_typed, a_tLen, a_tText, a_kind, a_val, a_stopOf, a_par, a_ipos, a_prim, a_stack, a_occ, a_base, a_rbuf, a_tbuf, a_svT, a_hist) x0 top := by
  subst e0
  have sx := sn_sgx P.2.1 (show x ≤ c by omega)
  have d4 : dp x ≤ 4 := by
    rcases P.2.2.2.2.2.2.2 x hx hk with a | a
    · omega
    · exact a.2.2.2.2.1
  refine ⟨vp_in_nI (by omega) (by omega), ?_⟩
  intro y ey
  rw [nI_clamp (by omega), (Y.2.1 x hx hk).2.1] at ey
  subst ey
  exact ⟨5, sn_yhl (post := post) (f := f) (top := top) P hc Y T (dp x) x 0 5 rfl hx hk (by omega) (by omega) ht h1 h0⟩
theorem sn_ytput {post : SY → Prop} {x : Int32} (l : List Int32) (A : sn_ag 160 a_tbuf l) (hl : l.length < 160) (h : ∀ tb, sn_ag 160 tb (l ++ [x]) → post (f_cap, f_hcap, f_len, f_caret, f_sel, f_bodyLen, f_sBodyLen, f_merge, f_session, f_selected, f_active, f_nItems, f_finalIdx, f_fromStruct, f_baseLen, f_baseP, f_rlen, nI (l ++ [x]).length, f_clearAll, f_svF, f_svL, f_hCount, a_buf, a_body, a_sBody, a_typed, a_tLen, a_tText, a_kind, a_val, a_stopOf, a_par, a_ipos, a_prim, a_stack, a_occ, a_base, a_rbuf, tb, a_svT, a_hist)) : wpY_tput post (f_cap, f_hcap, f_len, f_caret, f_sel, f_bodyLen, f_sBodyLen, f_merge, f_session, f_selected, f_active, f_nItems, f_finalIdx, f_fromStruct, f_baseLen, f_baseP, f_rlen, nI l.length, f_clearAll, f_svF, f_svL, f_hCount, a_buf, a_body, a_sBody, a_typed, a_tLen, a_tText, a_kind, a_val, a_stopOf, a_par, a_ipos, a_prim, a_stack, a_occ, a_base, a_rbuf, a_tbuf, a_svT, a_hist) x := by
  refine br_f (nI_ge (b := 160) (by omega) (by omega)) ⟨vp_in_nI hl (by omega), fun y ey z ez => ?_⟩
  rw [nI_clamp (by omega)] at ey
  rw [ez, nI_1, ← sn_len1 l x]
  exact h y (by rw [ey]; exact sn_agS A)
theorem sn_yrput {post : SY → Prop} {x : Int32} (l : List Int32) (A : sn_ag 64 a_rbuf l) (hl : l.length < 100000) (h : ∀ rb, sn_ag 64 rb (l ++ [x]) → post (f_cap, f_hcap, f_len, f_caret, f_sel, f_bodyLen, f_sBodyLen, f_merge, f_session, f_selected, f_active, f_nItems, f_finalIdx, f_fromStruct, f_baseLen, f_baseP, nI (l ++ [x]).length, f_tlen, f_clearAll, f_svF, f_svL, f_hCount, a_buf, a_body, a_sBody, a_typed, a_tLen, a_tText, a_kind, a_val, a_stopOf, a_par, a_ipos, a_prim, a_stack, a_occ, a_base, rb, a_tbuf, a_svT, a_hist)) : wpY_rput post (f_cap, f_hcap, f_len, f_caret, f_sel, f_bodyLen, f_sBodyLen, f_merge, f_session, f_selected, f_active, f_nItems, f_finalIdx, f_fromStruct, f_baseLen, f_baseP, nI l.length, f_tlen, f_clearAll, f_svF, f_svL, f_hCount, a_buf, a_body, a_sBody, a_typed, a_tLen, a_tText, a_kind, a_val, a_stopOf, a_par, a_ipos, a_prim, a_stack, a_occ, a_base, a_rbuf, a_tbuf, a_svT, a_hist) x := by
  by_cases q : 64 ≤ l.length
  · refine br_t (nI_le (a := 64) q (by omega)) (fun z ez => ?_)
    rw [ez, nI_1, ← sn_len1 l x]
    exact h _ (sn_agN A q)
  · refine br_f (nI_ge (b := 64) (by omega) (by omega)) ⟨vp_in_nI (by omega) (by omega), fun y ey z ez => ?_⟩
    rw [nI_clamp (by omega)] at ey
    rw [ez, nI_1, ← sn_len1 l x]
    exact h y (by rw [ey]; exact sn_agS A)
theorem sn_ytypT {post : SY → Prop} {x0 : Int32} (s mm : Nat) (e0 : x0 = nI s) (hs : s ≤ 9) (em : a_tLen s = nI mm) (hm : mm ≤ 8) (l : List Int32) (A : sn_ag 160 a_tbuf l) (hl : l.length + mm ≤ 160)
    (h : ∀ tb, sn_ag 160 tb (l ++ sn_ls (fun k => a_tText (s * 8 + k)) mm) → post (f_cap, f_hcap, f_len, f_caret, f_sel, f_bodyLen, f_sBodyLen, f_merge, f_session, f_selected, f_active, f_nItems, f_finalIdx, f_fromStruct, f_baseLen, f_baseP, f_rlen, nI (l ++ sn_ls (fun k => a_tText (s * 8 + k)) mm).length, f_clearAll, f_svF, f_svL, f_hCount, a_buf, a_body, a_sBody, a_typed, a_tLen, a_tText, a_kind, a_val, a_stopOf, a_par, a_ipos, a_prim, a_stack, a_occ, a_base, a_rbuf, tb, a_svT, a_hist)) : wpY_typedT post (f_cap, f_hcap, f_len, f_caret, f_sel, f_bodyLen, f_sBodyLen, f_merge, f_session, f_selected, f_active, f_nItems, f_finalIdx, f_fromStruct, f_baseLen, f_baseP, f_rlen, nI l.length, f_clearAll, f_svF, f_svL, f_hCount, a_buf, a_body, a_sBody, a_typed, a_tLen, a_tText, a_kind, a_val, a_stopOf, a_par, a_ipos, a_prim, a_stack, a_occ, a_base, a_rbuf, a_tbuf, a_svT, a_hist) x0 := by
  subst e0
  have cs : (nI s).toNatClampNeg = s := nI_clamp (by omega)
  have v10 : vp_in (nI s) 10 := vp_in_nI (by omega) (by omega)
  have go : ∀ m k n tb, k + m = mm → m < n → sn_ag 160 tb (l ++ sn_ls (fun k => a_tText (s * 8 + k)) k) → wY_typedT_2 post (nI s) n (nI k) f_cap f_hcap f_len f_caret f_sel f_bodyLen f_sBodyLen f_merge f_session f_selected f_active f_nItems f_finalIdx f_fromStruct f_baseLen f_baseP f_rlen (nI (l ++ sn_ls (fun k => a_tText (s * 8 + k)) k).length) f_clearAll f_svF f_svL f_hCount a_buf a_body a_sBody a_typed a_tLen a_tText a_kind a_val a_stopOf a_par a_ipos a_prim a_stack a_occ a_base a_rbuf tb a_svT a_hist := by
    intro m
    induction m with
    | zero =>
      intro k n tb hi hn A
      obtain ⟨n, rfl⟩ : ∃ k, n = k + 1 := ⟨n - 1, by omega⟩
      obtain rfl : k = mm := by omega
      refine ⟨v10, ?_⟩
      rw [cs, em]
      exact br_t (nI_le (Nat.le_refl _) (by omega)) (h tb A)
    | succ m ih =>
      intro k n tb hi hn A
      obtain ⟨n, rfl⟩ : ∃ k, n = k + 1 := ⟨n - 1, by omega⟩
      refine ⟨v10, ?_⟩
      have ix : nI s * 8 + nI k = nI (s * 8 + k) := by rw [sn_mu s 8 rfl, nI_add]
      rw [cs, em, ix, nI_clamp (show s * 8 + k < 2 ^ 31 by omega)]
      refine br_f (nI_ge (by omega) (by omega)) (br_f (nI_ge (a := k) (b := 8) (by omega) (by omega)) ⟨vp_in_nI (by omega) (by omega), ?_⟩)
      refine sn_ytput _ A (by rw [List.length_append, sn_lsL]; omega) (fun tb' A' => ?_)
      intro y ey
      rw [List.append_assoc] at A'
      rw [ey, nI_1, List.append_assoc]
      exact ih (k + 1) n tb' (by omega) (by omega) A'
  have w := go mm 0 (mm + 1) a_tbuf (by omega) (by omega) (by rw [show sn_ls (fun k => a_tText (s * 8 + k)) 0 = [] from rfl, List.append_nil]; exact A)
  rw [show sn_ls (fun k => a_tText (s * 8 + k)) 0 = [] from rfl, List.append_nil] at w
  exact ⟨_, w⟩
theorem sn_ytypR {post : SY → Prop} {x0 : Int32} (s mm : Nat) (e0 : x0 = nI s) (hs : s ≤ 9) (em : a_tLen s = nI mm) (hm : mm ≤ 8) (l : List Int32) (A : sn_ag 64 a_rbuf l) (hl : l.length + mm ≤ 100000)
    (h : ∀ rb, sn_ag 64 rb (l ++ sn_ls (fun k => a_tText (s * 8 + k)) mm) → post (f_cap, f_hcap, f_len, f_caret, f_sel, f_bodyLen, f_sBodyLen, f_merge, f_session, f_selected, f_active, f_nItems, f_finalIdx, f_fromStruct, f_baseLen, f_baseP, nI (l ++ sn_ls (fun k => a_tText (s * 8 + k)) mm).length, f_tlen, f_clearAll, f_svF, f_svL, f_hCount, a_buf, a_body, a_sBody, a_typed, a_tLen, a_tText, a_kind, a_val, a_stopOf, a_par, a_ipos, a_prim, a_stack, a_occ, a_base, rb, a_tbuf, a_svT, a_hist)) : wpY_typedR post (f_cap, f_hcap, f_len, f_caret, f_sel, f_bodyLen, f_sBodyLen, f_merge, f_session, f_selected, f_active, f_nItems, f_finalIdx, f_fromStruct, f_baseLen, f_baseP, nI l.length, f_tlen, f_clearAll, f_svF, f_svL, f_hCount, a_buf, a_body, a_sBody, a_typed, a_tLen, a_tText, a_kind, a_val, a_stopOf, a_par, a_ipos, a_prim, a_stack, a_occ, a_base, a_rbuf, a_tbuf, a_svT, a_hist) x0 := by
  subst e0
  have cs : (nI s).toNatClampNeg = s := nI_clamp (by omega)
  have v10 : vp_in (nI s) 10 := vp_in_nI (by omega) (by omega)
  have go : ∀ m k n rb, k + m = mm → m < n → sn_ag 64 rb (l ++ sn_ls (fun k => a_tText (s * 8 + k)) k) → wY_typedR_2 post (nI s) n (nI k) f_cap f_hcap f_len f_caret f_sel f_bodyLen f_sBodyLen f_merge f_session f_selected f_active f_nItems f_finalIdx f_fromStruct f_baseLen f_baseP (nI (l ++ sn_ls (fun k => a_tText (s * 8 + k)) k).length) f_tlen f_clearAll f_svF f_svL f_hCount a_buf a_body a_sBody a_typed a_tLen a_tText a_kind a_val a_stopOf a_par a_ipos a_prim a_stack a_occ a_base rb a_tbuf a_svT a_hist := by
    intro m
    induction m with
    | zero =>
      intro k n rb hi hn A
      obtain ⟨n, rfl⟩ : ∃ k, n = k + 1 := ⟨n - 1, by omega⟩
      obtain rfl : k = mm := by omega
      refine ⟨v10, ?_⟩
      rw [cs, em]
      exact br_t (nI_le (Nat.le_refl _) (by omega)) (h rb A)
    | succ m ih =>
      intro k n rb hi hn A
      obtain ⟨n, rfl⟩ : ∃ k, n = k + 1 := ⟨n - 1, by omega⟩
      refine ⟨v10, ?_⟩
      have ix : nI s * 8 + nI k = nI (s * 8 + k) := by rw [sn_mu s 8 rfl, nI_add]
      rw [cs, em, ix, nI_clamp (show s * 8 + k < 2 ^ 31 by omega)]
      refine br_f (nI_ge (by omega) (by omega)) (br_f (nI_ge (a := k) (b := 8) (by omega) (by omega)) ⟨vp_in_nI (by omega) (by omega), ?_⟩)
      refine sn_yrput _ A (by rw [List.length_append, sn_lsL]; omega) (fun rb' A' => ?_)
      intro y ey
      rw [List.append_assoc] at A'
      rw [ey, nI_1, List.append_assoc]
      exact ih (k + 1) n rb' (by omega) (by omega) A'
  have w := go mm 0 (mm + 1) a_rbuf (by omega) (by omega) (by rw [show sn_ls (fun k => a_tText (s * 8 + k)) 0 = [] from rfl, List.append_nil]; exact A)
  rw [show sn_ls (fun k => a_tText (s * 8 + k)) 0 = [] from rfl, List.append_nil] at w
  exact ⟨_, w⟩
end SNR
end
section
section SNS
/-! Y: primText, mirrors -/
variable {K S oa ca sg dp pa st : Nat → Nat} {V L : Nat → Int32} {c : Nat}
variable {f_cap f_hcap f_len f_caret f_sel f_bodyLen f_sBodyLen f_merge f_session f_selected f_active f_nItems f_finalIdx f_fromStruct f_baseLen f_baseP f_rlen f_tlen f_clearAll f_svF f_svL f_hCount : Int32} {a_buf a_body a_sBody a_typed a_tLen a_tText a_kind a_val a_stopOf a_par a_ipos a_prim a_stack a_occ a_base a_rbuf a_tbuf a_svT a_hist : Nat → Int32}
theorem sn_yprl {post : SY → Prop} (P : sn_PI c 0 st K V S oa ca sg dp pa) (hc : c ≤ 65) (Y : sn_YS c K V S oa sg pa f_nItems f_finalIdx a_kind a_val a_stopOf a_par a_prim) (T : sn_YT f_clearAll a_typed a_tLen L) (s : Nat) (h1 : 1 ≤ s) (hs : oa s < c) (hl : L s = -1)
    (h : ∀ tb, sn_ag 160 tb (sn_pt K V S oa ca L a_tText s) → post (f_cap, f_hcap, f_len, f_caret, f_sel, f_bodyLen, f_sBodyLen, f_merge, f_session, f_selected, f_active, f_nItems, f_finalIdx, f_fromStruct, f_baseLen, f_baseP, f_rlen, nI (sn_pt K V S oa ca L a_tText s).length, f_clearAll, f_svF, f_svL, f_hCount, a_buf, a_body, a_sBody, a_typed, a_tLen, a_tText, a_kind, a_val, a_stopOf, a_par, a_ipos, a_prim, a_stack, a_occ, a_base, a_rbuf, tb, a_svT, a_hist)) :
    ∀ m x n tb, x + m = ca s → oa s < x → m < n → sn_ag 160 tb (sn_sp K V S oa ca L a_tText (oa s) (x - oa s)) →
      wY_primText_35 post (nI (sg (oa s))) n (nI (sg x)) f_cap f_hcap f_len f_caret f_sel f_bodyLen f_sBodyLen f_merge f_session f_selected f_active f_nItems f_finalIdx f_fromStruct f_baseLen f_baseP f_rlen (nI (sn_sp K V S oa ca L a_tText (oa s) (x - oa s)).length) f_clearAll f_svF f_svL f_hCount a_buf a_body a_sBody a_typed a_tLen a_tText a_kind a_val a_stopOf a_par a_ipos a_prim a_stack a_occ a_base a_rbuf tb a_svT a_hist := by
  have c0 := P.1
  have qs : s ≤ 9 ∧ oa s < ca s ∧ ca s < c ∧ K (oa s) = 1 := by
    rcases sn_clo P s with a | a | a
    · omega
    · omega
    · exact ⟨a.2.1, a.2.2.1, a.2.2.2.1, a.2.2.2.2.1⟩
  have LL := sn_YTL T
  have L8 := sn_LL8 LL
  have so := sn_sgx P.2.1 (show oa s ≤ c by omega)
  intro m
  induction m with
  | zero =>
    intro x n tb hx ho hn A
    obtain ⟨n, rfl⟩ : ∃ k, n = k + 1 := ⟨n - 1, by omega⟩
    obtain rfl : x = ca s := by omega
    obtain ⟨y, y1, y2, y3, y4⟩ := sn_exit P h1 hs
    have sy := sn_sgx P.2.1 y2
    rw [← y3]
    rcases y4 with e | ⟨y5, y6, y7⟩
    · exact br_t (by rw [Y.1, e]; exact nI_le (Nat.le_refl _) (by have := sn_sgx P.2.1 (Nat.le_refl c); omega)) (h tb A)
    · have lt := sn_sgS P.2.1 y5 (Nat.le_refl c) y6
      have sc := sn_sgx P.2.1 (Nat.le_refl c)
      refine br_f (by rw [Y.1]; exact nI_ge lt (by omega)) ⟨vp_in_nI (by omega) (by omega), br_t ?_ (h tb A)⟩
      rw [nI_clamp (by omega), (Y.2.1 y y5 y6).2.1]
      rcases y7 with e | ⟨e1, e2⟩
      · rw [sn_yp0 e]
        exact Int32.lt_of_lt_of_le (show (-1 : Int32) < 0 by decide) (nI_pos' (by omega))
      · rw [sn_yp1 (by omega)]
        have kp : K (oa (pa y)) ≠ 2 := by
          rcases sn_clo P (pa y) with a | a | a <;> omega
        have l2 := sn_sgS P.2.1 e2 (by omega) kp
        exact nI_lt l2 (by omega)
  | succ m ih =>
    intro x n tb hx ho hn A
    have hxc : x < c := by omega
    have e1 : sn_sp K V S oa ca L a_tText (oa s) (x + 1 - oa s) = sn_sp K V S oa ca L a_tText (oa s) (x - oa s) ++ sn_out K V S oa ca L a_tText (oa s) x := by
      rw [show x + 1 - oa s = (x - oa s) + 1 by omega, sn_sp, show oa s + (x - oa s) = x by omega]
    by_cases k2 : K x = 2
    · have w := ih (x + 1) n tb (by omega) (by omega) (by omega) (by rw [e1, sn_out2 (by omega) (by omega), List.append_nil]; exact A)
      rw [e1, sn_out2 (by omega) (by omega), List.append_nil, sn_sg2 P.2.1 hxc k2] at w
      exact w
    · obtain ⟨n, rfl⟩ : ∃ k, n = k + 1 := ⟨n - 1, by omega⟩
      have lb := sn_spB' (V := V) (L := L) (T := a_tText) (f := oa s) (n := x + 1 - oa s) P.2.2.2.2.1 L8 (by omega)
      have sx := sn_sgx P.2.1 (show x ≤ c by omega)
      have lt := sn_sgS P.2.1 hxc (Nat.le_refl c) k2
      have sc := sn_sgx P.2.1 (Nat.le_refl c)
      have v72 : vp_in (nI (sg x)) 72 := vp_in_nI (by omega) (by omega)
      have cx : (nI (sg x)).toNatClampNeg = sg x := nI_clamp (by omega)
      have ys := Y.2.1 x hxc k2
      have nxt : ∀ tb', sn_ag 160 tb' (sn_sp K V S oa ca L a_tText (oa s) (x + 1 - oa s)) → ∀ y : Int32, y = nI (sg x) + 1 → wY_primText_35 post (nI (sg (oa s))) n y f_cap f_hcap f_len f_caret f_sel f_bodyLen f_sBodyLen f_merge f_session f_selected f_active f_nItems f_finalIdx f_fromStruct f_baseLen f_baseP f_rlen (nI (sn_sp K V S oa ca L a_tText (oa s) (x + 1 - oa s)).length) f_clearAll f_svF f_svL f_hCount a_buf a_body a_sBody a_typed a_tLen a_tText a_kind a_val a_stopOf a_par a_ipos a_prim a_stack a_occ a_base a_rbuf tb' a_svT a_hist := by
        intro tb' A' y ey
        have w := ih (x + 1) n tb' (by omega) (by omega) (by omega) A'
        rw [sn_sg1 P.2.1 hxc k2] at w
        rw [ey, nI_1]; exact w
      have skip : sn_out K V S oa ca L a_tText (oa s) x = [] → ∀ y : Int32, y = nI (sg x) + 1 → wY_primText_35 post (nI (sg (oa s))) n y f_cap f_hcap f_len f_caret f_sel f_bodyLen f_sBodyLen f_merge f_session f_selected f_active f_nItems f_finalIdx f_fromStruct f_baseLen f_baseP f_rlen (nI (sn_sp K V S oa ca L a_tText (oa s) (x - oa s)).length) f_clearAll f_svF f_svL f_hCount a_buf a_body a_sBody a_typed a_tLen a_tText a_kind a_val a_stopOf a_par a_ipos a_prim a_stack a_occ a_base a_rbuf tb a_svT a_hist := by
        intro eo
        rw [e1, eo, List.append_nil] at nxt
        exact nxt tb A
      have en : sn_enc oa ca s x := ⟨ho, by omega⟩
      refine br_f (by rw [Y.1]; exact nI_ge lt (by omega)) ⟨v72, br_f ?_ ?_⟩
      · rw [cx, ys.2.1]
        rcases sn_ch P L hxc k2 with ⟨_, _, a⟩ | ⟨a1, a2, a3, a4, a5, a6, a7, a8, a9, a10⟩
        · exact absurd en (a s)
        · rw [sn_yp1 (by omega)]
          have so2 := sn_sgx P.2.1 (show oa (pa x) ≤ c by omega)
          refine nI_nlt ?_ (by omega)
          rcases a10 s en with e | e
          · rw [← e]; exact Nat.le_refl _
          · exact sn_sgM' P.2.1 (Nat.le_of_lt e.1) (by omega)
      · refine sn_yhid P hc Y T (oa s + 1) x rfl hxc k2 (Or.inr ⟨s, h1, hs, rfl, rfl, en⟩) (fun z => ?_) (fun z => ?_)
        · exact br_f (by decide) (skip (sn_outH ((sn_hid1 P hs h1 hl).mpr z)))
        · have nh : ¬ sn_hid oa ca L (oa s) x := fun w => z ((sn_hid1 P hs h1 hl).mp w)
          refine br_t rfl ⟨v72, ?_⟩
          rw [cx]
          by_cases k0 : K x = 0
          · have kv := ys.2.2.1 k0
            refine br_t kv.1 ⟨v72, ?_⟩
            rw [kv.2]
            rw [e1, sn_out0 nh k0] at nxt lb
            rw [List.length_append] at lb
            have lb1 : ([V x] : List Int32).length = 1 := rfl
            refine sn_ytput _ A (by omega) (fun tb' A' => nxt tb' A')
          · by_cases k1 : K x = 1
            · have qx : 1 ≤ S x ∧ S x ≤ 9 := by
                rcases P.2.2.2.2.1 x hxc with a | a | a | a | a <;> omega
              have J : wY_primText_107 post (wY_primText_35 post (nI (sg (oa s))) n) (nI (sg (oa s))) (nI (sg x)) f_cap f_hcap f_len f_caret f_sel f_bodyLen f_sBodyLen f_merge f_session f_selected f_active f_nItems f_finalIdx f_fromStruct f_baseLen f_baseP f_rlen (nI (sn_sp K V S oa ca L a_tText (oa s) (x - oa s)).length) f_clearAll f_svF f_svL f_hCount a_buf a_body a_sBody a_typed a_tLen a_tText a_kind a_val a_stopOf a_par a_ipos a_prim a_stack a_occ a_base a_rbuf tb a_svT a_hist := by
                refine ⟨v72, ?_⟩
                rw [cx, ys.1]
                refine sn_yisT T (S x) rfl qx.2 (fun l1 => ?_) (fun l1 => ?_)
                · refine br_f (by decide) ⟨v72, ?_⟩
                  rcases T (S x) qx.2 with b | ⟨mm, hm, b1, b2, b3, b4⟩
                  · exact absurd b.1 l1
                  · have et : sn_out K V S oa ca L a_tText (oa s) x = sn_ls (fun k => a_tText (S x * 8 + k)) mm := by
                      rw [sn_out1 nh k1 l1]; unfold sn_ty; rw [b1, nI_clamp (by omega)]
                    rw [e1, et] at nxt lb
                    rw [List.length_append, sn_lsL] at lb
                    exact sn_ytypT (S x) mm rfl qx.2 b4 hm _ A (by omega) (fun tb' A' => nxt tb' A')
                · exact br_t rfl (skip (sn_out2 k0 (fun w => w.2 l1)))
              have kk := ys.2.2.2.1 k1
              rcases kk with kk | kk
              · exact br_f (by rw [kk]; decide) ⟨v72, br_f (by rw [kk]; decide) ⟨v72, br_t kk J⟩⟩
              · exact br_f (by rw [kk]; decide) ⟨v72, br_t kk J⟩
            · have kk : a_kind (sg x) = 4 ∨ a_kind (sg x) = 3 := by
                rcases P.2.2.2.2.1 x hxc with a | a | a | a | a
                · omega
                · omega
                · omega
                · exact Or.inl (ys.2.2.2.2.1 a.1)
                · exact Or.inr (ys.2.2.2.2.2 a.1).1
              have sk := skip (sn_out2 k0 (fun w => k1 w.1))
              rcases kk with kk | kk
              · exact br_f (by rw [kk]; decide) ⟨v72, br_f (by rw [kk]; decide) ⟨v72, br_f (by rw [kk]; decide) sk⟩⟩
              · exact br_f (by rw [kk]; decide) ⟨v72, br_f (by rw [kk]; decide) ⟨v72, br_f (by rw [kk]; decide) sk⟩⟩
theorem sn_ypr {post : SY → Prop} {x0 : Int32} (P : sn_PI c 0 st K V S oa ca sg dp pa) (hc : c ≤ 65) (Y : sn_YS c K V S oa sg pa f_nItems f_finalIdx a_kind a_val a_stopOf a_par a_prim) (T : sn_YT f_clearAll a_typed a_tLen L) (s : Nat) (e0 : x0 = nI s) (h1 : 1 ≤ s) (h9 : s ≤ 9) (hs : oa s < c)
    (h : ∀ tb, sn_ag 160 tb (sn_pt K V S oa ca L a_tText s) → post (f_cap, f_hcap, f_len, f_caret, f_sel, f_bodyLen, f_sBodyLen, f_merge, f_session, f_selected, f_active, f_nItems, f_finalIdx, f_fromStruct, f_baseLen, f_baseP, f_rlen, nI (sn_pt K V S oa ca L a_tText s).length, f_clearAll, f_svF, f_svL, f_hCount, a_buf, a_body, a_sBody, a_typed, a_tLen, a_tText, a_kind, a_val, a_stopOf, a_par, a_ipos, a_prim, a_stack, a_occ, a_base, a_rbuf, tb, a_svT, a_hist)) : wpY_primText post (f_cap, f_hcap, f_len, f_caret, f_sel, f_bodyLen, f_sBodyLen, f_merge, f_session, f_selected, f_active, f_nItems, f_finalIdx, f_fromStruct, f_baseLen, f_baseP, f_rlen, f_tlen, f_clearAll, f_svF, f_svL, f_hCount, a_buf, a_body, a_sBody, a_typed, a_tLen, a_tText, a_kind, a_val, a_stopOf, a_par, a_ipos, a_prim, a_stack, a_occ, a_base, a_rbuf, a_tbuf, a_svT, a_hist) x0 := by
  subst e0
  have c0 := P.1
  have so := sn_sgx P.2.1 (show oa s ≤ c by omega)
  have cs : (nI s).toNatClampNeg = s := nI_clamp (by omega)
  refine ⟨vp_in_nI (by omega) (by omega), ?_⟩
  intro y ey
  rw [cs, Y.2.2.1 s h1 h9, if_neg (by omega)] at ey
  subst ey
  refine br_t (nI_pos' (by omega)) ?_
  refine sn_yisT T s rfl h9 (fun l1 => ?_) (fun l1 => ?_)
  · refine br_f (by decide) ?_
    rcases T s h9 with b | ⟨mm, hm, b1, b2, b3, b4⟩
    · exact absurd b.1 l1
    · have et : sn_pt K V S oa ca L a_tText s = sn_ls (fun k => a_tText (s * 8 + k)) mm := by
        rw [sn_ptT P hs h1 l1]; unfold sn_ty; rw [b1, nI_clamp (by omega)]
      rw [et] at h
      exact sn_ytypT s mm rfl h9 b4 hm [] sn_ag0 (by show 0 + mm ≤ 160; omega) (fun tb A => h tb A)
  · refine br_t rfl (fun z ez => ?_)
    have ks : K (oa s) ≠ 2 ∧ oa s < ca s := by rcases sn_clo P s with a | a | a <;> omega
    have w := sn_yprl (post := post) P hc Y T s h1 hs l1 h (ca s - oa s - 1) (oa s + 1) (ca s - oa s) a_tbuf (by omega) (by omega) (by omega) (by
      rw [Nat.add_sub_cancel_left, (sn_sp1 P hs h1).1 l1]; exact sn_ag0)
    rw [Nat.add_sub_cancel_left, (sn_sp1 P hs h1).1 l1, sn_sg1 P.2.1 hs ks.1] at w
    rw [ez, nI_1]
    exact ⟨_, w⟩
theorem sn_ym82 {post : SY → Prop} {J : _} {x4 : Int32} (t k : Nat) (ht : t ≤ 3) (hk : k < 1000) (h : wY_mirR_112 post J (nI t) (nI k) (if t = 3 ∧ k = 0 then sn_up x4 else x4) f_cap f_hcap f_len f_caret f_sel f_bodyLen f_sBodyLen f_merge f_session f_selected f_active f_nItems f_finalIdx f_fromStruct f_baseLen f_baseP f_rlen f_tlen f_clearAll f_svF f_svL f_hCount a_buf a_body a_sBody a_typed a_tLen a_tText a_kind a_val a_stopOf a_par a_ipos a_prim a_stack a_occ a_base a_rbuf a_tbuf a_svT a_hist) : wY_mirR_82 post J (nI t) (nI k) x4 f_cap f_hcap f_len f_caret f_sel f_bodyLen f_sBodyLen f_merge f_session f_selected f_active f_nItems f_finalIdx f_fromStruct f_baseLen f_baseP f_rlen f_tlen f_clearAll f_svF f_svL f_hCount a_buf a_body a_sBody a_typed a_tLen a_tText a_kind a_val a_stopOf a_par a_ipos a_prim a_stack a_occ a_base a_rbuf a_tbuf a_svT a_hist := by
  by_cases a : t = 3
  · refine br_t (by rw [a]; rfl) ?_
    by_cases b : k = 0
    · rw [if_pos ⟨a, b⟩] at h
      refine br_t (by rw [b]; rfl) ?_
      unfold sn_up at h
      by_cases d : x4 < 97
      · rw [if_neg (fun z => absurd d (Int32.not_lt.mpr z.1))] at h; exact br_t d h
      · refine br_f d ?_
        by_cases e : 122 < x4
        · rw [if_neg (fun z => absurd e (Int32.not_lt.mpr z.2))] at h; exact br_t e h
        · rw [if_pos ⟨Int32.not_lt.mp d, Int32.not_lt.mp e⟩] at h
          exact br_f e (nm_e h)
    · rw [if_neg (fun z => b z.2)] at h
      exact br_f (sn_ne b (by omega) (by omega)) h
  · rw [if_neg (fun z => a z.1)] at h
    exact br_f (sn_ne a (by omega) (by omega)) h
theorem sn_ym56 {post : SY → Prop} {J : _} {x4 : Int32} (t k : Nat) (ht : t ≤ 3) (h : wY_mirR_82 post J (nI t) (nI k) (if t = 2 then sn_lo x4 else x4) f_cap f_hcap f_len f_caret f_sel f_bodyLen f_sBodyLen f_merge f_session f_selected f_active f_nItems f_finalIdx f_fromStruct f_baseLen f_baseP f_rlen f_tlen f_clearAll f_svF f_svL f_hCount a_buf a_body a_sBody a_typed a_tLen a_tText a_kind a_val a_stopOf a_par a_ipos a_prim a_stack a_occ a_base a_rbuf a_tbuf a_svT a_hist) : wY_mirR_56 post J (nI t) (nI k) x4 f_cap f_hcap f_len f_caret f_sel f_bodyLen f_sBodyLen f_merge f_session f_selected f_active f_nItems f_finalIdx f_fromStruct f_baseLen f_baseP f_rlen f_tlen f_clearAll f_svF f_svL f_hCount a_buf a_body a_sBody a_typed a_tLen a_tText a_kind a_val a_stopOf a_par a_ipos a_prim a_stack a_occ a_base a_rbuf a_tbuf a_svT a_hist := by
  by_cases a : t = 2
  · refine br_t (by rw [a]; rfl) ?_
    rw [if_pos a] at h
    unfold sn_lo at h
    by_cases d : x4 < 65
    · rw [if_neg (fun z => absurd d (Int32.not_lt.mpr z.1))] at h; exact br_t d h
    · refine br_f d ?_
      by_cases e : 90 < x4
      · rw [if_neg (fun z => absurd e (Int32.not_lt.mpr z.2))] at h; exact br_t e h
      · rw [if_pos ⟨Int32.not_lt.mp d, Int32.not_lt.mp e⟩] at h
        exact br_f e (nm_e h)
  · rw [if_neg a] at h
    exact br_f (sn_ne a (by omega) (by omega)) h
theorem sn_ytc (t k : Nat) (x : Int32) (ht : t ≤ 3) : (if t = 3 ∧ k = 0 then sn_up (if t = 2 then sn_lo (if t = 1 then sn_up x else x) else (if t = 1 then sn_up x else x)) else (if t = 2 then sn_lo (if t = 1 then sn_up x else x) else (if t = 1 then sn_up x else x))) = sn_tc (4 + t) k x := by
  unfold sn_tc
  by_cases a : t = 1
  · rw [if_neg (by omega), if_neg (by omega), if_pos a, if_pos (by omega)]
  · rw [if_neg a, if_neg (show ¬ 4 + t = 5 by omega)]
    by_cases b : t = 2
    · rw [if_neg (by omega), if_pos b, if_pos (by omega)]
    · rw [if_neg b, if_neg (show ¬ 4 + t = 6 by omega)]
      by_cases d : t = 3 ∧ k = 0
      · rw [if_pos d, if_pos (by omega)]
      · rw [if_neg d, if_neg (by omega)]
theorem sn_ymirl {post : SY → Prop} (t : Nat) (ht : t ≤ 3) (l p : List Int32) (A : sn_ag 160 a_tbuf p) (hp : p.length ≤ 145) (hl : l.length + p.length ≤ 90000)
    (h : ∀ rb, sn_ag 64 rb (l ++ sn_tr (4 + t) p) → post (f_cap, f_hcap, f_len, f_caret, f_sel, f_bodyLen, f_sBodyLen, f_merge, f_session, f_selected, f_active, f_nItems, f_finalIdx, f_fromStruct, f_baseLen, f_baseP, nI (l ++ sn_tr (4 + t) p).length, nI p.length, f_clearAll, f_svF, f_svL, f_hCount, a_buf, a_body, a_sBody, a_typed, a_tLen, a_tText, a_kind, a_val, a_stopOf, a_par, a_ipos, a_prim, a_stack, a_occ, a_base, rb, a_tbuf, a_svT, a_hist)) :
    ∀ m k n rb, k + m = p.length → m < n → sn_ag 64 rb (l ++ sn_ls (fun j => sn_tc (4 + t) j (sn_at p j)) k) →
      wY_mirR_7 post (nI t) n (nI k) f_cap f_hcap f_len f_caret f_sel f_bodyLen f_sBodyLen f_merge f_session f_selected f_active f_nItems f_finalIdx f_fromStruct f_baseLen f_baseP (nI (l ++ sn_ls (fun j => sn_tc (4 + t) j (sn_at p j)) k).length) (nI p.length) f_clearAll f_svF f_svL f_hCount a_buf a_body a_sBody a_typed a_tLen a_tText a_kind a_val a_stopOf a_par a_ipos a_prim a_stack a_occ a_base rb a_tbuf a_svT a_hist := by
  intro m
  induction m with
  | zero =>
    intro k n rb hi hn B
    obtain ⟨n, rfl⟩ : ∃ k, n = k + 1 := ⟨n - 1, by omega⟩
    obtain rfl : k = p.length := by omega
    exact br_t (nI_le (Nat.le_refl _) (by omega)) (h rb B)
  | succ m ih =>
    intro k n rb hi hn B
    obtain ⟨n, rfl⟩ : ∃ k, n = k + 1 := ⟨n - 1, by omega⟩
    refine br_f (nI_ge (by omega) (by omega)) (br_f (nI_ge (a := k) (b := 160) (by omega) (by omega)) ⟨vp_in_nI (by omega) (by omega), fun x ex => ?_⟩)
    rw [nI_clamp (by omega), A k (by omega) (by omega)] at ex
    subst ex
    have fin : wY_mirR_56 post (wY_mirR_7 post (nI t) n) (nI t) (nI k) (if t = 1 then sn_up (sn_at p k) else sn_at p k) f_cap f_hcap f_len f_caret f_sel f_bodyLen f_sBodyLen f_merge f_session f_selected f_active f_nItems f_finalIdx f_fromStruct f_baseLen f_baseP (nI (l ++ sn_ls (fun j => sn_tc (4 + t) j (sn_at p j)) k).length) (nI p.length) f_clearAll f_svF f_svL f_hCount a_buf a_body a_sBody a_typed a_tLen a_tText a_kind a_val a_stopOf a_par a_ipos a_prim a_stack a_occ a_base rb a_tbuf a_svT a_hist := by
      refine sn_ym56 t k ht (sn_ym82 t k ht (by omega) ?_)
      rw [sn_ytc t k _ ht]
      refine sn_yrput _ B (by rw [List.length_append, sn_lsL]; omega) (fun rb' B' => ?_)
      intro y ey
      rw [List.append_assoc] at B'
      rw [ey, nI_1, List.append_assoc]
      exact ih (k + 1) n rb' (by omega) (by omega) B'
    by_cases a : t = 1
    · rw [if_pos a] at fin
      refine br_t (by rw [a]; rfl) ?_
      unfold sn_up at fin
      by_cases d : sn_at p k < 97
      · rw [if_neg (fun z => absurd d (Int32.not_lt.mpr z.1))] at fin; exact br_t d fin
      · refine br_f d ?_
        by_cases e : 122 < sn_at p k
        · rw [if_neg (fun z => absurd e (Int32.not_lt.mpr z.2))] at fin; exact br_t e fin
        · rw [if_pos ⟨Int32.not_lt.mp d, Int32.not_lt.mp e⟩] at fin
          exact br_f e (nm_e fin)
    · rw [if_neg a] at fin
      exact br_f (sn_ne a (by omega) (by omega)) fin
theorem sn_ymir {post : SY → Prop} {x0 x1 : Int32} (P : sn_PI c 0 st K V S oa ca sg dp pa) (hc : c ≤ 65) (Y : sn_YS c K V S oa sg pa f_nItems f_finalIdx a_kind a_val a_stopOf a_par a_prim) (T : sn_YT f_clearAll a_typed a_tLen L) (s t : Nat) (e0 : x0 = nI s) (e1 : x1 = nI t) (h1 : 1 ≤ s) (h9 : s ≤ 9) (hs : oa s < c) (ht : t ≤ 3)
    (l : List Int32) (B : sn_ag 64 a_rbuf l) (hl : l.length ≤ 80000)
    (h : ∀ rb tb tl, sn_ag 64 rb (l ++ sn_tr (4 + t) (sn_pt K V S oa ca L a_tText s)) → post (f_cap, f_hcap, f_len, f_caret, f_sel, f_bodyLen, f_sBodyLen, f_merge, f_session, f_selected, f_active, f_nItems, f_finalIdx, f_fromStruct, f_baseLen, f_baseP, nI (l ++ sn_tr (4 + t) (sn_pt K V S oa ca L a_tText s)).length, tl, f_clearAll, f_svF, f_svL, f_hCount, a_buf, a_body, a_sBody, a_typed, a_tLen, a_tText, a_kind, a_val, a_stopOf, a_par, a_ipos, a_prim, a_stack, a_occ, a_base, rb, tb, a_svT, a_hist)) : wpY_mirR post (f_cap, f_hcap, f_len, f_caret, f_sel, f_bodyLen, f_sBodyLen, f_merge, f_session, f_selected, f_active, f_nItems, f_finalIdx, f_fromStruct, f_baseLen, f_baseP, nI l.length, f_tlen, f_clearAll, f_svF, f_svL, f_hCount, a_buf, a_body, a_sBody, a_typed, a_tLen, a_tText, a_kind, a_val, a_stopOf, a_par, a_ipos, a_prim, a_stack, a_occ, a_base, a_rbuf, a_tbuf, a_svT, a_hist) x0 x1 := by
  subst e1
  have pb := sn_ptB (V := V) (T := a_tText) P hc (sn_LL8 (sn_YTL T)) h9
  unfold wpY_mirR
  refine sn_ypr P hc Y T s e0 h1 h9 hs (fun tb A => ?_)
  have w := sn_ymirl (post := post) t ht l _ A pb (by omega) (fun rb B' => h rb tb _ B') (sn_pt K V S oa ca L a_tText s).length 0 ((sn_pt K V S oa ca L a_tText s).length + 1) a_rbuf (by omega) (by omega) (by
    rw [show sn_ls (fun j => sn_tc (4 + t) j (sn_at (sn_pt K V S oa ca L a_tText s) j)) 0 = [] from rfl, List.append_nil]; exact B)
  rw [show sn_ls (fun j => sn_tc (4 + t) j (sn_at (sn_pt K V S oa ca L a_tText s) j)) 0 = [] from rfl, List.append_nil] at w
  exact ⟨_, w⟩
end SNS
end
section
section SNT
/-! Y: render, rebuild, positions -/
variable {K S oa ca sg dp pa st : Nat → Nat} {V L : Nat → Int32} {c : Nat}
def sn_IP (oa ca : Nat → Nat) (L : Nat → Int32) (K sg : Nat → Nat) (len : Nat → Nat) (x : Nat) (ip : Nat → Int32) : Prop := ∀ y, y < x → K y ≠ 2 → ¬ sn_hid oa ca L 0 y → ip (sg y) = nI (len y)
variable {f_cap f_hcap f_len f_caret f_sel f_bodyLen f_sBodyLen f_merge f_session f_selected f_active f_nItems f_finalIdx f_fromStruct f_baseLen f_baseP f_rlen f_tlen f_clearAll f_svF f_svL f_hCount : Int32} {a_buf a_body a_sBody a_typed a_tLen a_tText a_kind a_val a_stopOf a_par a_ipos a_prim a_stack a_occ a_base a_rbuf a_tbuf a_svT a_hist : Nat → Int32}
theorem sn_yrnl {post : SY → Prop} (P : sn_PI c 0 st K V S oa ca sg dp pa) (hc : c ≤ 65) (Y : sn_YS c K V S oa sg pa f_nItems f_finalIdx a_kind a_val a_stopOf a_par a_prim) (T : sn_YT f_clearAll a_typed a_tLen L)
    (h : ∀ rb tb tl ip, sn_ag 64 rb (sn_rr K V S oa ca L a_tText c) → sn_IP oa ca L K sg (fun y => (sn_rr K V S oa ca L a_tText y).length) c ip → post (f_cap, f_hcap, f_len, f_caret, f_sel, f_bodyLen, f_sBodyLen, f_merge, f_session, f_selected, f_active, f_nItems, f_finalIdx, f_fromStruct, f_baseLen, f_baseP, nI (sn_rr K V S oa ca L a_tText c).length, tl, f_clearAll, f_svF, f_svL, f_hCount, a_buf, a_body, a_sBody, a_typed, a_tLen, a_tText, a_kind, a_val, a_stopOf, a_par, ip, a_prim, a_stack, a_occ, a_base, rb, tb, a_svT, a_hist)) :
    ∀ m x n rb tb tl ip, x + m = c → m < n → sn_ag 64 rb (sn_rr K V S oa ca L a_tText x) → sn_IP oa ca L K sg (fun y => (sn_rr K V S oa ca L a_tText y).length) x ip →
      wY_render_7 post n (nI (sg x)) f_cap f_hcap f_len f_caret f_sel f_bodyLen f_sBodyLen f_merge f_session f_selected f_active f_nItems f_finalIdx f_fromStruct f_baseLen f_baseP (nI (sn_rr K V S oa ca L a_tText x).length) tl f_clearAll f_svF f_svL f_hCount a_buf a_body a_sBody a_typed a_tLen a_tText a_kind a_val a_stopOf a_par ip a_prim a_stack a_occ a_base rb tb a_svT a_hist := by
  have c0 := P.1
  have sc := sn_sgx P.2.1 (Nat.le_refl c)
  have L8 := sn_LL8 (sn_YTL T)
  intro m
  induction m with
  | zero =>
    intro x n rb tb tl ip hx hn A I
    obtain ⟨n, rfl⟩ : ∃ k, n = k + 1 := ⟨n - 1, by omega⟩
    obtain rfl : x = c := by omega
    exact br_t (by rw [Y.1]; exact nI_le (Nat.le_refl _) (by omega)) (h rb tb tl ip A I)
  | succ m ih =>
    intro x n rb tb tl ip hx hn A I
    have hxc : x < c := by omega
    by_cases k2 : K x = 2
    · have w := ih (x + 1) n rb tb tl ip (by omega) (by omega) (by rw [sn_rr2 k2]; exact A) (fun y hy ky nh => by
        by_cases e : y = x
        · rw [e] at ky; exact absurd k2 ky
        · exact I y (by omega) ky nh)
      rw [sn_rr2 k2, sn_sg2 P.2.1 hxc k2] at w
      exact w
    · obtain ⟨n, rfl⟩ : ∃ k, n = k + 1 := ⟨n - 1, by omega⟩
      have lb := sn_rrB' (V := V) (L := L) (T := a_tText) (x := x + 1) P hc L8 (by omega)
      have sx := sn_sgx P.2.1 (show x ≤ c by omega)
      have lt := sn_sgS P.2.1 hxc (Nat.le_refl c) k2
      have v72 : vp_in (nI (sg x)) 72 := vp_in_nI (by omega) (by omega)
      have cx : (nI (sg x)).toNatClampNeg = sg x := nI_clamp (by omega)
      have ys := Y.2.1 x hxc k2
      have nxt : ∀ rb' tb' tl' ip', sn_ag 64 rb' (sn_rr K V S oa ca L a_tText (x + 1)) → sn_IP oa ca L K sg (fun y => (sn_rr K V S oa ca L a_tText y).length) (x + 1) ip' → ∀ y : Int32, y = nI (sg x) + 1 → wY_render_7 post n y f_cap f_hcap f_len f_caret f_sel f_bodyLen f_sBodyLen f_merge f_session f_selected f_active f_nItems f_finalIdx f_fromStruct f_baseLen f_baseP (nI (sn_rr K V S oa ca L a_tText (x + 1)).length) tl' f_clearAll f_svF f_svL f_hCount a_buf a_body a_sBody a_typed a_tLen a_tText a_kind a_val a_stopOf a_par ip' a_prim a_stack a_occ a_base rb' tb' a_svT a_hist := by
        intro rb' tb' tl' ip' A' I' y ey
        have w := ih (x + 1) n rb' tb' tl' ip' (by omega) (by omega) A' I'
        rw [sn_sg1 P.2.1 hxc k2] at w
        rw [ey, nI_1]; exact w
      have sl : ∀ y, y < x → K y ≠ 2 → sg y ≠ sg x := fun y hy ky => by
        have := sn_sgS P.2.1 hy (by omega) ky
        omega
      refine br_f (by rw [Y.1]; exact nI_ge lt (by omega)) ⟨v72, fun ip1 e1 => ?_⟩
      rw [cx] at e1
      subst e1
      refine sn_yhid P hc Y T 0 x rfl hxc k2 (Or.inl ⟨rfl, rfl⟩) (fun z => ?_) (fun z => ?_)
      · have k4 : ¬ 4 ≤ K x := fun w => sn_mirH (L := L) (f := 0) P hxc (by omega) z
        have er : sn_rr K V S oa ca L a_tText (x + 1) = sn_rr K V S oa ca L a_tText x := by
          rw [sn_rr, if_neg k4, sn_outH z, List.append_nil]
        rw [er] at nxt
        refine br_f (by decide) (nxt rb tb tl _ A (fun y hy ky nh => ?_))
        by_cases e : y = x
        · rw [e] at nh; exact absurd z nh
        · rw [pk_un (sl y (by omega) ky)]; exact I y (by omega) ky nh
      · refine br_t rfl ⟨v72, fun ip2 e2 => ⟨v72, fun k ek => ?_⟩⟩
        rw [cx] at e2 ek
        subst e2 ek
        have I2 : sn_IP oa ca L K sg (fun y => (sn_rr K V S oa ca L a_tText y).length) (x + 1) (upd (upd ip (sg x) (-1)) (sg x) (nI (sn_rr K V S oa ca L a_tText x).length)) := by
          intro y hy ky nh
          by_cases e : y = x
          · rw [e, pk_us]
          · rw [pk_un (sl y (by omega) ky), pk_un (sl y (by omega) ky)]; exact I y (by omega) ky nh
        by_cases k0 : K x = 0
        · have kv := ys.2.2.1 k0
          have er : sn_rr K V S oa ca L a_tText (x + 1) = sn_rr K V S oa ca L a_tText x ++ [V x] := by
            rw [sn_rr, if_neg (by omega), sn_out0 z k0]
          rw [er] at nxt lb
          rw [sn_len1] at lb
          refine br_t kv.1 ⟨v72, ?_⟩
          rw [cx, kv.2]
          exact sn_yrput _ A (by omega) (fun rb' A' => nxt rb' tb tl _ A' I2)
        · by_cases k1 : K x = 1
          · have qx : 1 ≤ S x ∧ S x ≤ 9 := by
              rcases P.2.2.2.2.1 x hxc with a | a | a | a | a <;> omega
            have kk := ys.2.2.2.1 k1
            have J : wY_render_78 post (wY_render_7 post n) (nI (sg x)) (a_kind (sg x)) f_cap f_hcap f_len f_caret f_sel f_bodyLen f_sBodyLen f_merge f_session f_selected f_active f_nItems f_finalIdx f_fromStruct f_baseLen f_baseP (nI (sn_rr K V S oa ca L a_tText x).length) tl f_clearAll f_svF f_svL f_hCount a_buf a_body a_sBody a_typed a_tLen a_tText a_kind a_val a_stopOf a_par (upd (upd ip (sg x) (-1)) (sg x) (nI (sn_rr K V S oa ca L a_tText x).length)) a_prim a_stack a_occ a_base rb tb a_svT a_hist := by
              refine ⟨v72, ?_⟩
              rw [cx, ys.1]
              refine sn_yisT T (S x) rfl qx.2 (fun l1 => ?_) (fun l1 => ?_)
              · refine br_f (by decide) ⟨v72, ?_⟩
                rcases T (S x) qx.2 with b | ⟨mm, hm, b1, b2, b3, b4⟩
                · exact absurd b.1 l1
                · have er : sn_rr K V S oa ca L a_tText (x + 1) = sn_rr K V S oa ca L a_tText x ++ sn_ls (fun k => a_tText (S x * 8 + k)) mm := by
                    rw [sn_rr, if_neg (by omega), sn_out1 z k1 l1]; unfold sn_ty; rw [b1, nI_clamp (by omega)]
                  rw [er] at nxt lb
                  rw [List.length_append, sn_lsL] at lb
                  exact sn_ytypR (S x) mm rfl qx.2 b4 hm _ A (by omega) (fun rb' A' => nxt rb' tb tl _ A' I2)
              · have er : sn_rr K V S oa ca L a_tText (x + 1) = sn_rr K V S oa ca L a_tText x := by
                  rw [sn_rr, if_neg (by omega), sn_out2 k0 (fun w => w.2 l1), List.append_nil]
                rw [er] at nxt
                refine br_t rfl (br_f ?_ (nxt rb tb tl _ A I2))
                rcases kk with kk | kk <;> rw [kk] <;> decide
            rcases kk with kk | kk
            · exact br_f (by rw [kk]; decide) (br_f (by rw [kk]; decide) (br_t kk J))
            · exact br_f (by rw [kk]; decide) (br_t kk J)
          · by_cases k3 : K x = 3
            · have kk := ys.2.2.2.2.1 k3
              have er : sn_rr K V S oa ca L a_tText (x + 1) = sn_rr K V S oa ca L a_tText x := by
                rw [sn_rr, if_neg (by omega), sn_out2 k0 (fun w => k1 w.1), List.append_nil]
              rw [er] at nxt
              exact br_f (by rw [kk]; decide) (br_f (by rw [kk]; decide) (br_f (by rw [kk]; decide) (br_f (by rw [kk]; decide) (nxt rb tb tl _ A I2))))
            · have q : 4 ≤ K x ∧ K x ≤ 7 ∧ 1 ≤ S x ∧ S x ≤ 9 ∧ oa (S x) < c := by
                rcases P.2.2.2.2.1 x hxc with a | a | a | a | a <;> omega
              have kk := ys.2.2.2.2.2 q.1
              have er : sn_rr K V S oa ca L a_tText (x + 1) = sn_rr K V S oa ca L a_tText x ++ sn_tr (4 + (K x - 4)) (sn_pt K V S oa ca L a_tText (S x)) := by
                rw [sn_rr, if_pos q.1, show 4 + (K x - 4) = K x by omega]
              rw [er] at nxt lb
              rw [List.length_append] at lb
              refine br_f (by rw [kk.1]; decide) (br_f (by rw [kk.1]; decide) (br_f (by rw [kk.1]; decide) (br_t kk.1 ⟨v72, v72, ?_⟩)))
              rw [cx, ys.1, kk.2]
              exact sn_ymir P hc Y T (S x) (K x - 4) rfl rfl q.2.2.1 q.2.2.2.1 q.2.2.2.2 (by omega) _ A (by omega) (fun rb' tb' tl' A' => nxt rb' tb' tl' _ A' I2)
theorem sn_yrn {post : SY → Prop} (P : sn_PI c 0 st K V S oa ca sg dp pa) (hc : c ≤ 65) (Y : sn_YS c K V S oa sg pa f_nItems f_finalIdx a_kind a_val a_stopOf a_par a_prim) (T : sn_YT f_clearAll a_typed a_tLen L)
    (h : ∀ rb tb tl ip, sn_ag 64 rb (sn_rr K V S oa ca L a_tText c) → sn_IP oa ca L K sg (fun y => (sn_rr K V S oa ca L a_tText y).length) c ip → post (f_cap, f_hcap, f_len, f_caret, f_sel, f_bodyLen, f_sBodyLen, f_merge, f_session, f_selected, f_active, f_nItems, f_finalIdx, f_fromStruct, f_baseLen, f_baseP, nI (sn_rr K V S oa ca L a_tText c).length, tl, f_clearAll, f_svF, f_svL, f_hCount, a_buf, a_body, a_sBody, a_typed, a_tLen, a_tText, a_kind, a_val, a_stopOf, a_par, ip, a_prim, a_stack, a_occ, a_base, rb, tb, a_svT, a_hist)) : wpY_render post (f_cap, f_hcap, f_len, f_caret, f_sel, f_bodyLen, f_sBodyLen, f_merge, f_session, f_selected, f_active, f_nItems, f_finalIdx, f_fromStruct, f_baseLen, f_baseP, f_rlen, f_tlen, f_clearAll, f_svF, f_svL, f_hCount, a_buf, a_body, a_sBody, a_typed, a_tLen, a_tText, a_kind, a_val, a_stopOf, a_par, a_ipos, a_prim, a_stack, a_occ, a_base, a_rbuf, a_tbuf, a_svT, a_hist) := by
  have w := sn_yrnl (post := post) P hc Y T h c 0 (c + 1) a_rbuf a_tbuf f_tlen a_ipos (by omega) (by omega) sn_ag0 (fun y hy => absurd hy (by omega))
  rw [P.2.1.1] at w
  exact ⟨_, w⟩
theorem sn_ybput {post : SY → Prop} {x : Int32} {t : Nat → Int32} (l : List Int32) (hl : l.length < 64) (h : post (f_cap, f_hcap, nI (l ++ [x]).length, f_caret, f_sel, f_bodyLen, f_sBodyLen, f_merge, f_session, f_selected, f_active, f_nItems, f_finalIdx, f_fromStruct, f_baseLen, f_baseP, f_rlen, f_tlen, f_clearAll, f_svF, f_svL, f_hCount, sn_wr t 0 (l ++ [x]), a_body, a_sBody, a_typed, a_tLen, a_tText, a_kind, a_val, a_stopOf, a_par, a_ipos, a_prim, a_stack, a_occ, a_base, a_rbuf, a_tbuf, a_svT, a_hist)) : wpY_bput post (f_cap, f_hcap, nI l.length, f_caret, f_sel, f_bodyLen, f_sBodyLen, f_merge, f_session, f_selected, f_active, f_nItems, f_finalIdx, f_fromStruct, f_baseLen, f_baseP, f_rlen, f_tlen, f_clearAll, f_svF, f_svL, f_hCount, sn_wr t 0 l, a_body, a_sBody, a_typed, a_tLen, a_tText, a_kind, a_val, a_stopOf, a_par, a_ipos, a_prim, a_stack, a_occ, a_base, a_rbuf, a_tbuf, a_svT, a_hist) x := by
  refine br_f (nI_ge (b := 64) (by omega) (by omega)) ⟨vp_in_nI hl (by omega), fun y ey z ez => ?_⟩
  rw [nI_clamp (by omega), sn_wrS t 0 _ l x (by omega)] at ey
  rw [ey, ez, nI_1, ← sn_len1 l x]; exact h
theorem sn_yb78 {post : SY → Prop} {t : Nat → Int32} (bp bl : Nat) (hb : bp ≤ bl) (hb64 : bl ≤ 64) (l : List Int32) (hl : l.length + (bl - bp) ≤ 64)
    (h : post (f_cap, f_hcap, nI (l ++ sn_ls (fun k => a_base (bp + k)) (bl - bp)).length, f_caret, f_sel, f_bodyLen, f_sBodyLen, f_merge, f_session, f_selected, f_active, f_nItems, f_finalIdx, f_fromStruct, nI bl, f_baseP, f_rlen, f_tlen, f_clearAll, f_svF, f_svL, f_hCount, sn_wr t 0 (l ++ sn_ls (fun k => a_base (bp + k)) (bl - bp)), a_body, a_sBody, a_typed, a_tLen, a_tText, a_kind, a_val, a_stopOf, a_par, a_ipos, a_prim, a_stack, a_occ, a_base, a_rbuf, a_tbuf, a_svT, a_hist)) :
    ∃ n, wY_rebuild_78 post n (nI bp) f_cap f_hcap (nI l.length) f_caret f_sel f_bodyLen f_sBodyLen f_merge f_session f_selected f_active f_nItems f_finalIdx f_fromStruct (nI bl) f_baseP f_rlen f_tlen f_clearAll f_svF f_svL f_hCount (sn_wr t 0 l) a_body a_sBody a_typed a_tLen a_tText a_kind a_val a_stopOf a_par a_ipos a_prim a_stack a_occ a_base a_rbuf a_tbuf a_svT a_hist := by
  have go : ∀ m k n, bp + k + m = bl → m < n → wY_rebuild_78 post n (nI (bp + k)) f_cap f_hcap (nI (l ++ sn_ls (fun k => a_base (bp + k)) k).length) f_caret f_sel f_bodyLen f_sBodyLen f_merge f_session f_selected f_active f_nItems f_finalIdx f_fromStruct (nI bl) f_baseP f_rlen f_tlen f_clearAll f_svF f_svL f_hCount (sn_wr t 0 (l ++ sn_ls (fun k => a_base (bp + k)) k)) a_body a_sBody a_typed a_tLen a_tText a_kind a_val a_stopOf a_par a_ipos a_prim a_stack a_occ a_base a_rbuf a_tbuf a_svT a_hist := by
    intro m
    induction m with
    | zero =>
      intro k n hi hn
      obtain ⟨n, rfl⟩ : ∃ k, n = k + 1 := ⟨n - 1, by omega⟩
      obtain rfl : k = bl - bp := by omega
      exact br_t (nI_le (by omega) (by omega)) h
    | succ m ih =>
      intro k n hi hn
      obtain ⟨n, rfl⟩ : ∃ k, n = k + 1 := ⟨n - 1, by omega⟩
      refine br_f (nI_ge (by omega) (by omega)) (br_f (nI_ge (a := bp + k) (b := 64) (by omega) (by omega)) ⟨vp_in_nI (by omega) (by omega), ?_⟩)
      rw [nI_clamp (by omega)]
      refine sn_ybput _ (by rw [List.length_append, sn_lsL]; omega) ?_
      intro y ey
      rw [ey, nI_1, List.append_assoc]
      exact ih (k + 1) n (by omega) (by omega)
  have w := go (bl - bp) 0 (bl - bp + 1) (by omega) (by omega)
  rw [show sn_ls (fun k => a_base (bp + k)) 0 = [] from rfl, List.append_nil] at w
  exact ⟨_, w⟩
theorem sn_yb43 {post : SY → Prop} {t : Nat → Int32} (R : List Int32) (A : sn_ag 64 a_rbuf R) (l : List Int32) (hl : l.length + R.length ≤ 64)
    (h : ∃ n, wY_rebuild_78 post n f_baseP f_cap f_hcap (nI (l ++ R).length) f_caret f_sel f_bodyLen f_sBodyLen f_merge f_session f_selected f_active f_nItems f_finalIdx f_fromStruct f_baseLen f_baseP (nI R.length) f_tlen f_clearAll f_svF f_svL f_hCount (sn_wr t 0 (l ++ R)) a_body a_sBody a_typed a_tLen a_tText a_kind a_val a_stopOf a_par a_ipos a_prim a_stack a_occ a_base a_rbuf a_tbuf a_svT a_hist) :
    ∃ n, wY_rebuild_43 post n 0 f_cap f_hcap (nI l.length) f_caret f_sel f_bodyLen f_sBodyLen f_merge f_session f_selected f_active f_nItems f_finalIdx f_fromStruct f_baseLen f_baseP (nI R.length) f_tlen f_clearAll f_svF f_svL f_hCount (sn_wr t 0 l) a_body a_sBody a_typed a_tLen a_tText a_kind a_val a_stopOf a_par a_ipos a_prim a_stack a_occ a_base a_rbuf a_tbuf a_svT a_hist := by
  have eR : sn_ls a_rbuf R.length = R := sn_agE A (by omega)
  have go : ∀ m k n, k + m = R.length → m < n → wY_rebuild_43 post n (nI k) f_cap f_hcap (nI (l ++ sn_ls a_rbuf k).length) f_caret f_sel f_bodyLen f_sBodyLen f_merge f_session f_selected f_active f_nItems f_finalIdx f_fromStruct f_baseLen f_baseP (nI R.length) f_tlen f_clearAll f_svF f_svL f_hCount (sn_wr t 0 (l ++ sn_ls a_rbuf k)) a_body a_sBody a_typed a_tLen a_tText a_kind a_val a_stopOf a_par a_ipos a_prim a_stack a_occ a_base a_rbuf a_tbuf a_svT a_hist := by
    intro m
    induction m with
    | zero =>
      intro k n hi hn
      obtain ⟨n, rfl⟩ : ∃ k, n = k + 1 := ⟨n - 1, by omega⟩
      obtain rfl : k = R.length := by omega
      rw [eR]
      exact br_t (nI_le (by omega) (by omega)) h
    | succ m ih =>
      intro k n hi hn
      obtain ⟨n, rfl⟩ : ∃ k, n = k + 1 := ⟨n - 1, by omega⟩
      refine br_f (nI_ge (by omega) (by omega)) (br_f (nI_ge (a := k) (b := 64) (by omega) (by omega)) ⟨vp_in_nI (by omega) (by omega), ?_⟩)
      rw [nI_clamp (by omega)]
      refine sn_ybput _ (by rw [List.length_append, sn_lsL]; omega) ?_
      intro y ey
      rw [ey, nI_1, List.append_assoc]
      exact ih (k + 1) n (by omega) (by omega)
  have w := go R.length 0 (R.length + 1) (by omega) (by omega)
  rw [show sn_ls a_rbuf 0 = [] from rfl, List.append_nil] at w
  exact ⟨_, w⟩
theorem sn_yb11 {post : SY → Prop} (bp : Nat) (hb : bp ≤ 64)
    (h : ∃ n, wY_rebuild_43 post n 0 f_cap f_hcap (nI (sn_ls a_base bp).length) f_caret f_sel f_bodyLen f_sBodyLen f_merge f_session f_selected f_active f_nItems f_finalIdx f_fromStruct f_baseLen (nI bp) f_rlen f_tlen f_clearAll f_svF f_svL f_hCount (sn_wr a_buf 0 (sn_ls a_base bp)) a_body a_sBody a_typed a_tLen a_tText a_kind a_val a_stopOf a_par a_ipos a_prim a_stack a_occ a_base a_rbuf a_tbuf a_svT a_hist) :
    ∃ n, wY_rebuild_11 post n 0 f_cap f_hcap 0 f_caret f_sel f_bodyLen f_sBodyLen f_merge f_session f_selected f_active f_nItems f_finalIdx f_fromStruct f_baseLen (nI bp) f_rlen f_tlen f_clearAll f_svF f_svL f_hCount a_buf a_body a_sBody a_typed a_tLen a_tText a_kind a_val a_stopOf a_par a_ipos a_prim a_stack a_occ a_base a_rbuf a_tbuf a_svT a_hist := by
  have go : ∀ m k n, k + m = bp → m < n → wY_rebuild_11 post n (nI k) f_cap f_hcap (nI (sn_ls a_base k).length) f_caret f_sel f_bodyLen f_sBodyLen f_merge f_session f_selected f_active f_nItems f_finalIdx f_fromStruct f_baseLen (nI bp) f_rlen f_tlen f_clearAll f_svF f_svL f_hCount (sn_wr a_buf 0 (sn_ls a_base k)) a_body a_sBody a_typed a_tLen a_tText a_kind a_val a_stopOf a_par a_ipos a_prim a_stack a_occ a_base a_rbuf a_tbuf a_svT a_hist := by
    intro m
    induction m with
    | zero =>
      intro k n hi hn
      obtain ⟨n, rfl⟩ : ∃ k, n = k + 1 := ⟨n - 1, by omega⟩
      obtain rfl : k = bp := by omega
      exact br_t (nI_le (by omega) (by omega)) h
    | succ m ih =>
      intro k n hi hn
      obtain ⟨n, rfl⟩ : ∃ k, n = k + 1 := ⟨n - 1, by omega⟩
      refine br_f (nI_ge (by omega) (by omega)) (br_f (nI_ge (a := k) (b := 64) (by omega) (by omega)) ⟨vp_in_nI (by omega) (by omega), ?_⟩)
      rw [nI_clamp (by omega)]
      refine sn_ybput _ (by rw [sn_lsL]; omega) ?_
      intro y ey
      rw [ey, nI_1]
      exact ih (k + 1) n (by omega) (by omega)
  have w := go bp 0 (bp + 1) (by omega) (by omega)
  rw [show sn_ls a_base 0 = [] from rfl, sn_wr0] at w
  exact ⟨_, w⟩
theorem sn_yrb {post : SY → Prop} (P : sn_PI c 0 st K V S oa ca sg dp pa) (hc : c ≤ 65) (Y : sn_YS c K V S oa sg pa f_nItems f_finalIdx a_kind a_val a_stopOf a_par a_prim) (T : sn_YT f_clearAll a_typed a_tLen L) (bp bl : Nat) (hb : bp ≤ bl) (hl : bl + (sn_rr K V S oa ca L a_tText c).length ≤ 64)
    (h : ∀ rl rb tb tl ip, post (f_cap, f_hcap, nI (bl + (sn_rr K V S oa ca L a_tText c).length), f_caret, f_sel, f_bodyLen, f_sBodyLen, f_merge, f_session, f_selected, f_active, f_nItems, f_finalIdx, f_fromStruct, nI bl, nI bp, rl, tl, f_clearAll, f_svF, f_svL, f_hCount, sn_wr a_buf 0 (sn_ls a_base bp ++ sn_rr K V S oa ca L a_tText c ++ sn_ls (fun k => a_base (bp + k)) (bl - bp)), a_body, a_sBody, a_typed, a_tLen, a_tText, a_kind, a_val, a_stopOf, a_par, ip, a_prim, a_stack, a_occ, a_base, rb, tb, a_svT, a_hist)) :
    wpY_rebuild post (f_cap, f_hcap, f_len, f_caret, f_sel, f_bodyLen, f_sBodyLen, f_merge, f_session, f_selected, f_active, f_nItems, f_finalIdx, f_fromStruct, nI bl, nI bp, f_rlen, f_tlen, f_clearAll, f_svF, f_svL, f_hCount, a_buf, a_body, a_sBody, a_typed, a_tLen, a_tText, a_kind, a_val, a_stopOf, a_par, a_ipos, a_prim, a_stack, a_occ, a_base, a_rbuf, a_tbuf, a_svT, a_hist) := by
  have hlen : (sn_ls a_base bp ++ sn_rr K V S oa ca L a_tText c ++ sn_ls (fun k => a_base (bp + k)) (bl - bp)).length = bl + (sn_rr K V S oa ca L a_tText c).length := by
    rw [List.length_append, List.length_append, sn_lsL, sn_lsL]; omega
  unfold wpY_rebuild
  refine sn_yrn P hc Y T (fun rb tb tl ip A I => ?_)
  refine sn_yb11 bp (by omega) (sn_yb43 _ A _ (by rw [sn_lsL]; omega) (sn_yb78 bp bl hb (by omega) _ (by rw [List.length_append, sn_lsL]; omega) ?_))
  rw [hlen]
  exact h _ rb tb tl ip
theorem sn_yst {post : Int32 → SY → Prop} {x0 : Int32} (P : sn_PI c 0 st K V S oa ca sg dp pa) (hc : c ≤ 65) (Y : sn_YS c K V S oa sg pa f_nItems f_finalIdx a_kind a_val a_stopOf a_par a_prim) (T : sn_YT f_clearAll a_typed a_tLen L) (bp s : Nat) (e0 : x0 = nI s) (h1 : 1 ≤ s) (h9 : s ≤ 9) (hs : oa s < c) (ha : ¬ sn_hid oa ca L 0 (oa s))
    (h : ∀ rl rb tb tl ip, post (nI (bp + (sn_rr K V S oa ca L a_tText (oa s)).length)) (f_cap, f_hcap, f_len, f_caret, f_sel, f_bodyLen, f_sBodyLen, f_merge, f_session, f_selected, f_active, f_nItems, f_finalIdx, f_fromStruct, f_baseLen, nI bp, rl, tl, f_clearAll, f_svF, f_svL, f_hCount, a_buf, a_body, a_sBody, a_typed, a_tLen, a_tText, a_kind, a_val, a_stopOf, a_par, ip, a_prim, a_stack, a_occ, a_base, rb, tb, a_svT, a_hist)) : wpY_startOf post (f_cap, f_hcap, f_len, f_caret, f_sel, f_bodyLen, f_sBodyLen, f_merge, f_session, f_selected, f_active, f_nItems, f_finalIdx, f_fromStruct, f_baseLen, nI bp, f_rlen, f_tlen, f_clearAll, f_svF, f_svL, f_hCount, a_buf, a_body, a_sBody, a_typed, a_tLen, a_tText, a_kind, a_val, a_stopOf, a_par, a_ipos, a_prim, a_stack, a_occ, a_base, a_rbuf, a_tbuf, a_svT, a_hist) x0 := by
  subst e0
  have c0 := P.1
  have so := sn_sgx P.2.1 (show oa s ≤ c by omega)
  have k2 : K (oa s) ≠ 2 := by rcases sn_clo P s with a | a | a <;> omega
  unfold wpY_startOf
  refine sn_yrn P hc Y T (fun rb tb tl ip A I => ?_)
  refine ⟨vp_in_nI (by omega) (by omega), fun y ey => ?_⟩
  rw [nI_clamp (by omega), Y.2.2.1 s h1 h9, if_neg (by omega)] at ey
  subst ey
  refine br_t (nI_pos' (by omega)) ⟨vp_in_nI (by omega) (by omega), ?_⟩
  rw [nI_clamp (by omega), I (oa s) hs k2 ha, nI_add]
  exact h _ rb tb tl ip
theorem sn_yen {post : Int32 → SY → Prop} {x0 : Int32} (P : sn_PI c 0 st K V S oa ca sg dp pa) (hc : c ≤ 65) (Y : sn_YS c K V S oa sg pa f_nItems f_finalIdx a_kind a_val a_stopOf a_par a_prim) (T : sn_YT f_clearAll a_typed a_tLen L) (bp s : Nat) (e0 : x0 = nI s) (h1 : 1 ≤ s) (h9 : s ≤ 9) (hs : oa s < c) (ha : ¬ sn_hid oa ca L 0 (oa s))
    (h : ∀ rl rb tb tl ip, post (nI (bp + (sn_rr K V S oa ca L a_tText (ca s)).length)) (f_cap, f_hcap, f_len, f_caret, f_sel, f_bodyLen, f_sBodyLen, f_merge, f_session, f_selected, f_active, f_nItems, f_finalIdx, f_fromStruct, f_baseLen, nI bp, rl, tl, f_clearAll, f_svF, f_svL, f_hCount, a_buf, a_body, a_sBody, a_typed, a_tLen, a_tText, a_kind, a_val, a_stopOf, a_par, ip, a_prim, a_stack, a_occ, a_base, rb, tb, a_svT, a_hist)) : wpY_endOf post (f_cap, f_hcap, f_len, f_caret, f_sel, f_bodyLen, f_sBodyLen, f_merge, f_session, f_selected, f_active, f_nItems, f_finalIdx, f_fromStruct, f_baseLen, nI bp, f_rlen, f_tlen, f_clearAll, f_svF, f_svL, f_hCount, a_buf, a_body, a_sBody, a_typed, a_tLen, a_tText, a_kind, a_val, a_stopOf, a_par, a_ipos, a_prim, a_stack, a_occ, a_base, a_rbuf, a_tbuf, a_svT, a_hist) x0 := by
  subst e0
  unfold wpY_endOf
  refine sn_yst P hc Y T bp s rfl h1 h9 hs ha (fun rl rb tb tl ip => ?_)
  refine sn_ypr P hc Y T s rfl h1 h9 hs (fun tb' A => ?_)
  rw [sn_rrP P h1 hs ha, List.length_append, ← Nat.add_assoc, ← nI_add] at h
  exact h rl rb tb' _ ip
theorem sn_yfp {post : Int32 → SY → Prop} (P : sn_PI c 0 st K V S oa ca sg dp pa) (hc : c ≤ 65) (Y : sn_YS c K V S oa sg pa f_nItems f_finalIdx a_kind a_val a_stopOf a_par a_prim) (T : sn_YT f_clearAll a_typed a_tLen L) (bp : Nat) (h00 : oa 0 < c)
    (h : ∀ rl rb tb tl ip, post (nI (bp + (sn_rr K V S oa ca L a_tText (oa 0)).length)) (f_cap, f_hcap, f_len, f_caret, f_sel, f_bodyLen, f_sBodyLen, f_merge, f_session, f_selected, f_active, f_nItems, f_finalIdx, f_fromStruct, f_baseLen, nI bp, rl, tl, f_clearAll, f_svF, f_svL, f_hCount, a_buf, a_body, a_sBody, a_typed, a_tLen, a_tText, a_kind, a_val, a_stopOf, a_par, ip, a_prim, a_stack, a_occ, a_base, rb, tb, a_svT, a_hist)) : wpY_finalPos post (f_cap, f_hcap, f_len, f_caret, f_sel, f_bodyLen, f_sBodyLen, f_merge, f_session, f_selected, f_active, f_nItems, f_finalIdx, f_fromStruct, f_baseLen, nI bp, f_rlen, f_tlen, f_clearAll, f_svF, f_svL, f_hCount, a_buf, a_body, a_sBody, a_typed, a_tLen, a_tText, a_kind, a_val, a_stopOf, a_par, a_ipos, a_prim, a_stack, a_occ, a_base, a_rbuf, a_tbuf, a_svT, a_hist) := by
  have c0 := P.1
  have so := sn_sgx P.2.1 (show oa 0 ≤ c by omega)
  have k3 : K (oa 0) = 3 := by rcases sn_clo P 0 with a | a | a <;> omega
  have ef : f_finalIdx = nI (sg (oa 0)) := by rw [Y.2.2.2, if_neg (by omega)]
  unfold wpY_finalPos
  refine sn_yrn P hc Y T (fun rb tb tl ip A I => ?_)
  subst ef
  refine br_t (nI_pos' (by omega)) ⟨vp_in_nI (by omega) (by omega), ?_⟩
  rw [nI_clamp (by omega), I (oa 0) h00 (by omega) (sn_mirH P h00 (by omega)), nI_add]
  exact h _ rb tb tl ip
theorem sn_yalv {post : Int32 → Prop} {x0 : Int32} (P : sn_PI c 0 st K V S oa ca sg dp pa) (hc : c ≤ 65) (Y : sn_YS c K V S oa sg pa f_nItems f_finalIdx a_kind a_val a_stopOf a_par a_prim) (T : sn_YT f_clearAll a_typed a_tLen L) (s : Nat) (e0 : x0 = nI s) (h1 : 1 ≤ s) (h9 : s ≤ 9)
    (ht : sn_AL oa ca L s → post 1) (hf : ¬ sn_AL oa ca L s → post 0) : wpY_alive post (f_cap, f_hcap, f_len, f_caret, f_sel, f_bodyLen, f_sBodyLen, f_merge, f_session, f_selected, f_active, f_nItems, f_finalIdx, f_fromStruct, f_baseLen, f_baseP, f_rlen, f_tlen, f_clearAll, f_svF, f_svL, f_hCount, a_buf, a_body, a_sBody, a_typed, a_tLen, a_tText, a_kind, a_val, a_stopOf, a_par, a_ipos, a_prim, a_stack, a_occ, a_base, a_rbuf, a_tbuf, a_svT, a_hist) x0 := by
  subst e0
  have c0 := P.1
  have v10 : vp_in (nI s) 10 := vp_in_nI (by omega) (by omega)
  refine br_f (fun y => absurd ((nI_ltI (a := s) (b := 1) (by omega) (by omega)).mp y) (by omega)) (br_f (fun y => absurd ((nI_ltI (a := 9) (b := s) (by omega) (by omega)).mp y) (by omega)) ⟨v10, ?_⟩)
  rw [nI_clamp (show s < 2 ^ 31 by omega), Y.2.2.1 s h1 h9]
  by_cases z : oa s = 1000
  · rw [if_pos z]
    exact br_t (by decide) (hf (fun w => w.1 z))
  · rw [if_neg z]
    have oc : oa s < c ∧ K (oa s) ≠ 2 := by rcases sn_clo P s with a | a | a <;> omega
    have so := sn_sgx P.2.1 (show oa s ≤ c by omega)
    refine br_f (nI_pos (by omega)) ⟨v10, ?_⟩
    exact sn_yhid P hc Y T 0 (oa s) rfl oc.1 oc.2 (Or.inl ⟨rfl, rfl⟩) (fun w => br_f (by decide) (hf (fun q => q.2 w))) (fun w => br_t rfl (ht ⟨z, w⟩))
theorem sn_ysel {post : SY → Prop} {x0 : Int32} (P : sn_PI c 0 st K V S oa ca sg dp pa) (hc : c ≤ 65) (Y : sn_YS c K V S oa sg pa f_nItems f_finalIdx a_kind a_val a_stopOf a_par a_prim) (T : sn_YT f_clearAll a_typed a_tLen L) (bp s : Nat) (e0 : x0 = nI s) (h1 : 1 ≤ s) (h9 : s ≤ 9) (al : sn_AL oa ca L s)
    (h : ∀ rl rb tb tl ip, post (f_cap, f_hcap, f_len, nI (bp + (sn_rr K V S oa ca L a_tText (ca s)).length), nI (bp + (sn_rr K V S oa ca L a_tText (oa s)).length), f_bodyLen, f_sBodyLen, f_merge, f_session, 1, nI s, f_nItems, f_finalIdx, f_fromStruct, f_baseLen, nI bp, rl, tl, f_clearAll, f_svF, f_svL, f_hCount, a_buf, a_body, a_sBody, a_typed, a_tLen, a_tText, a_kind, a_val, a_stopOf, a_par, ip, a_prim, a_stack, a_occ, a_base, rb, tb, a_svT, a_hist)) : wpY_select post (f_cap, f_hcap, f_len, f_caret, f_sel, f_bodyLen, f_sBodyLen, f_merge, f_session, f_selected, f_active, f_nItems, f_finalIdx, f_fromStruct, f_baseLen, nI bp, f_rlen, f_tlen, f_clearAll, f_svF, f_svL, f_hCount, a_buf, a_body, a_sBody, a_typed, a_tLen, a_tText, a_kind, a_val, a_stopOf, a_par, a_ipos, a_prim, a_stack, a_occ, a_base, a_rbuf, a_tbuf, a_svT, a_hist) x0 := by
  subst e0
  have c0 := P.1
  have oc : oa s < c := by
    have := al.1
    rcases sn_clo P s with a | a | a <;> omega
  unfold wpY_select
  refine sn_yst P hc Y T bp s rfl h1 h9 oc al.2 (fun rl rb tb tl ip => ?_)
  exact sn_yen P hc Y T bp s rfl h1 h9 oc al.2 (fun rl rb tb tl ip => h rl rb tb tl ip)
end SNT
end
section
section SNU
/-! Y: groups and snapshots -/
theorem sn_nar0 : vp_nar .boolean 0 = 0 := rfl
theorem sn_nar1 : vp_nar .boolean 1 = 1 := rfl
variable {f_cap f_hcap f_len f_caret f_sel f_bodyLen f_sBodyLen f_merge f_session f_selected f_active f_nItems f_finalIdx f_fromStruct f_baseLen f_baseP f_rlen f_tlen f_clearAll f_svF f_svL f_hCount : Int32} {a_buf a_body a_sBody a_typed a_tLen a_tText a_kind a_val a_stopOf a_par a_ipos a_prim a_stack a_occ a_base a_rbuf a_tbuf a_svT a_hist : Nat → Int32}
variable {post : SY → Prop}
theorem sn_y186 (d : Nat) (hd : d < 16) (h : post (f_cap, f_hcap, f_len, f_caret, f_sel, f_bodyLen, f_sBodyLen, f_merge, f_session, f_selected, f_active, f_nItems, f_finalIdx, f_fromStruct, f_baseLen, f_baseP, f_rlen, f_tlen, f_clearAll, f_svF, f_svL, f_hCount, a_buf, a_body, a_sBody, a_typed, a_tLen, a_tText, a_kind, a_val, a_stopOf, a_par, a_ipos, a_prim, a_stack, a_occ, a_base, a_rbuf, a_tbuf, a_svT, sn_cp a_tText 0 a_hist (170 * d + 90) 80)) : ∃ n, wY_save_186 post (nI (170 * d)) f_cap f_hcap f_len f_caret f_sel f_bodyLen f_sBodyLen f_merge f_session f_selected f_active f_nItems f_finalIdx f_fromStruct f_baseLen f_baseP f_rlen f_tlen f_clearAll f_svF f_svL f_hCount n 0 a_buf a_body a_sBody a_typed a_tLen a_tText a_kind a_val a_stopOf a_par a_ipos a_prim a_stack a_occ a_base a_rbuf a_tbuf a_svT a_hist := by
  have go : ∀ m k n, k + m = 80 → m < n → wY_save_186 post (nI (170 * d)) f_cap f_hcap f_len f_caret f_sel f_bodyLen f_sBodyLen f_merge f_session f_selected f_active f_nItems f_finalIdx f_fromStruct f_baseLen f_baseP f_rlen f_tlen f_clearAll f_svF f_svL f_hCount n (nI k) a_buf a_body a_sBody a_typed a_tLen a_tText a_kind a_val a_stopOf a_par a_ipos a_prim a_stack a_occ a_base a_rbuf a_tbuf a_svT (sn_cp a_tText 0 a_hist (170 * d + 90) k) := by
    intro m
    induction m with
    | zero =>
      intro k n hi hn
      obtain ⟨n, rfl⟩ : ∃ k, n = k + 1 := ⟨n - 1, by omega⟩
      obtain rfl : k = 80 := by omega
      exact br_t (by decide) h
    | succ m ih =>
      intro k n hi hn
      obtain ⟨n, rfl⟩ : ∃ k, n = k + 1 := ⟨n - 1, by omega⟩
      have ix : nI (170 * d) + 90 + nI k = nI (170 * d + 90 + k) := sn_ad _ _ (sn_ad _ 90 rfl) rfl
      refine br_f (nI_ge (a := k) (b := 80) (by omega) (by omega)) ⟨vp_in_nI (by omega) (by omega), ?_⟩
      rw [ix]
      refine ⟨vp_in_nI (by omega) (by omega), fun y ey z ez => ?_⟩
      have q := sn_cpS a_tText 0 a_hist (170 * d + 90) k
      rw [Nat.zero_add] at q
      rw [nI_clamp (by omega), nI_clamp (by omega), q] at ey
      rw [ey, ez, nI_1]
      exact ih (k + 1) n (by omega) (by omega)
  have w := go 80 0 81 (by omega) (by omega)
  rw [sn_cp0] at w
  exact ⟨_, w⟩
theorem sn_y130 {H0 : Nat → Int32} (d : Nat) (hd : d < 16) (hb : ∀ t, t ≤ 9 → sn_b1 (a_typed t))
    (h : ∀ H, (∀ j, j < 170 * d + 70 → H j = H0 j) → (∀ t, t ≤ 9 → H (170 * d + 70 + t) = a_typed t) → (∀ t, t ≤ 9 → H (170 * d + 80 + t) = a_tLen t) → ∃ n, wY_save_186 post (nI (170 * d)) f_cap f_hcap f_len f_caret f_sel f_bodyLen f_sBodyLen f_merge f_session f_selected f_active f_nItems f_finalIdx f_fromStruct f_baseLen f_baseP f_rlen f_tlen f_clearAll f_svF f_svL f_hCount n 0 a_buf a_body a_sBody a_typed a_tLen a_tText a_kind a_val a_stopOf a_par a_ipos a_prim a_stack a_occ a_base a_rbuf a_tbuf a_svT H) :
    ∃ n, wY_save_130 post (nI (170 * d)) f_cap f_hcap f_len f_caret f_sel f_bodyLen f_sBodyLen f_merge f_session f_selected f_active f_nItems f_finalIdx f_fromStruct f_baseLen f_baseP f_rlen f_tlen f_clearAll f_svF f_svL f_hCount n 0 a_buf a_body a_sBody a_typed a_tLen a_tText a_kind a_val a_stopOf a_par a_ipos a_prim a_stack a_occ a_base a_rbuf a_tbuf a_svT H0 := by
  have go : ∀ m k n H, k + m = 10 → m < n → (∀ j, j < 170 * d + 70 → H j = H0 j) → (∀ t, t < k → H (170 * d + 70 + t) = a_typed t) → (∀ t, t < k → H (170 * d + 80 + t) = a_tLen t) → wY_save_130 post (nI (170 * d)) f_cap f_hcap f_len f_caret f_sel f_bodyLen f_sBodyLen f_merge f_session f_selected f_active f_nItems f_finalIdx f_fromStruct f_baseLen f_baseP f_rlen f_tlen f_clearAll f_svF f_svL f_hCount n (nI k) a_buf a_body a_sBody a_typed a_tLen a_tText a_kind a_val a_stopOf a_par a_ipos a_prim a_stack a_occ a_base a_rbuf a_tbuf a_svT H := by
    intro m
    induction m with
    | zero =>
      intro k n H hi hn h1 h2 h3
      obtain ⟨n, rfl⟩ : ∃ k, n = k + 1 := ⟨n - 1, by omega⟩
      obtain rfl : k = 10 := by omega
      exact br_t (by decide) (h H h1 (fun t ht => h2 t (by omega)) (fun t ht => h3 t (by omega)))
    | succ m ih =>
      intro k n H hi hn h1 h2 h3
      obtain ⟨n, rfl⟩ : ∃ k, n = k + 1 := ⟨n - 1, by omega⟩
      have ix : nI (170 * d) + 70 + nI k = nI (170 * d + 70 + k) := sn_ad _ _ (sn_ad _ 70 rfl) rfl
      have iy : nI (170 * d) + 80 + nI k = nI (170 * d + 80 + k) := sn_ad _ _ (sn_ad _ 80 rfl) rfl
      have v10 : vp_in (nI k) 10 := vp_in_nI (by omega) (by omega)
      have J : ∀ z : Int32, z = a_typed k → wY_save_160 post (wY_save_130 post (nI (170 * d)) f_cap f_hcap f_len f_caret f_sel f_bodyLen f_sBodyLen f_merge f_session f_selected f_active f_nItems f_finalIdx f_fromStruct f_baseLen f_baseP f_rlen f_tlen f_clearAll f_svF f_svL f_hCount n) (nI (170 * d)) (nI k) z (nI (170 * d) + 70 + nI k) f_cap f_hcap f_len f_caret f_sel f_bodyLen f_sBodyLen f_merge f_session f_selected f_active f_nItems f_finalIdx f_fromStruct f_baseLen f_baseP f_rlen f_tlen f_clearAll f_svF f_svL f_hCount a_buf a_body a_sBody a_typed a_tLen a_tText a_kind a_val a_stopOf a_par a_ipos a_prim a_stack a_occ a_base a_rbuf a_tbuf a_svT H := by
        intro z ez
        rw [ix]
        refine ⟨vp_in_nI (by omega) (by omega), fun y ey => ⟨v10, ?_⟩⟩
        rw [iy]
        refine ⟨vp_in_nI (by omega) (by omega), fun u eu w ew => ?_⟩
        rw [nI_clamp (by omega), ez] at ey
        rw [nI_clamp (by omega), nI_clamp (by omega)] at eu
        rw [ew, nI_1, eu, ey]
        refine ih (k + 1) n _ (by omega) (by omega) (fun j hj => ?_) (fun t ht => ?_) (fun t ht => ?_)
        · rw [pk_un (by omega), pk_un (by omega)]; exact h1 j hj
        · rw [pk_un (by omega)]
          by_cases e : t = k
          · rw [e, pk_us]
          · rw [pk_un (by omega)]; exact h2 t (by omega)
        · by_cases e : t = k
          · rw [e, pk_us]
          · rw [pk_un (by omega), pk_un (by omega)]; exact h3 t (by omega)
      refine br_f (nI_ge (a := k) (b := 10) (by omega) (by omega)) ⟨v10, ?_⟩
      rw [nI_clamp (by omega)]
      rcases hb k (by omega) with b | b
      · exact br_t b (J 0 b.symm)
      · exact br_f (by rw [b]; decide) (J 1 b.symm)
  exact ⟨_, go 10 0 11 H0 (by omega) (by omega) (fun j _ => rfl) (fun t ht => absurd ht (by omega)) (fun t ht => absurd ht (by omega))⟩
theorem sn_ysave {yh : Nat → Int32} {x0 : Int32} (e d : Nat) (e0 : x0 = nI d) (hd : d < 16) (hs : ∀ j, j < 170 * d → a_hist j = yh (e + j)) (hb : ∀ t, t ≤ 9 → sn_b1 (a_typed t)) (hb1 : sn_b1 f_session) (hb2 : sn_b1 f_selected)
    (h : ∀ yh', sn_ysv yh yh' e d f_len f_caret f_sel f_session f_active f_selected a_buf a_typed a_tLen a_tText → post (f_cap, f_hcap, f_len, f_caret, f_sel, f_bodyLen, f_sBodyLen, f_merge, f_session, f_selected, f_active, f_nItems, f_finalIdx, f_fromStruct, f_baseLen, f_baseP, f_rlen, f_tlen, f_clearAll, f_svF, f_svL, f_hCount, a_buf, a_body, a_sBody, a_typed, a_tLen, a_tText, a_kind, a_val, a_stopOf, a_par, a_ipos, a_prim, a_stack, a_occ, a_base, a_rbuf, a_tbuf, a_svT, yh')) : wpY_save post (f_cap, f_hcap, f_len, f_caret, f_sel, f_bodyLen, f_sBodyLen, f_merge, f_session, f_selected, f_active, f_nItems, f_finalIdx, f_fromStruct, f_baseLen, f_baseP, f_rlen, f_tlen, f_clearAll, f_svF, f_svL, f_hCount, a_buf, a_body, a_sBody, a_typed, a_tLen, a_tText, a_kind, a_val, a_stopOf, a_par, a_ipos, a_prim, a_stack, a_occ, a_base, a_rbuf, a_tbuf, a_svT, a_hist) x0 := by
  subst e0
  intro x ex
  rw [sn_mu d 170 rfl, Nat.mul_comm] at ex
  subst ex
  have J : ∀ H0 : Nat → Int32, (∀ j, j < 170 * d → H0 j = yh (e + j)) → (∀ k, k < 64 → H0 (170 * d + k) = a_buf k) → H0 (170 * d + 64) = f_len → H0 (170 * d + 65) = f_caret → H0 (170 * d + 66) = f_sel → H0 (170 * d + 67) = f_session → H0 (170 * d + 68) = f_active → H0 (170 * d + 69) = f_selected →
      ∃ n, wY_save_130 post (nI (170 * d)) f_cap f_hcap f_len f_caret f_sel f_bodyLen f_sBodyLen f_merge f_session f_selected f_active f_nItems f_finalIdx f_fromStruct f_baseLen f_baseP f_rlen f_tlen f_clearAll f_svF f_svL f_hCount n 0 a_buf a_body a_sBody a_typed a_tLen a_tText a_kind a_val a_stopOf a_par a_ipos a_prim a_stack a_occ a_base a_rbuf a_tbuf a_svT H0 := by
    intro H0 q0 q1 q2 q3 q4 q5 q6 q7
    refine sn_y130 d hd hb (fun H h1 h2 h3 => sn_y186 d hd (h _ ⟨fun j hj => ?_, fun k hk => ?_, ?_, ?_, ?_, ?_, ?_, ?_, fun k hk => ?_, fun k hk => ?_, fun k hk => ?_⟩))
    · rw [sn_cpO (by omega), h1 j (by omega)]; exact q0 j hj
    · rw [sn_cpO (by omega), h1 _ (by omega)]; exact q1 k hk
    · rw [sn_cpO (by omega), h1 _ (by omega)]; exact q2
    · rw [sn_cpO (by omega), h1 _ (by omega)]; exact q3
    · rw [sn_cpO (by omega), h1 _ (by omega)]; exact q4
    · rw [sn_cpO (by omega), h1 _ (by omega)]; exact q5
    · rw [sn_cpO (by omega), h1 _ (by omega)]; exact q6
    · rw [sn_cpO (by omega), h1 _ (by omega)]; exact q7
    · rw [sn_cpO (by omega)]; exact h2 k hk
    · rw [sn_cpO (by omega)]; exact h3 k hk
    · rw [sn_cpI hk, Nat.zero_add]
  have c4 : (nI (170 * d) + 64).toNatClampNeg = 170 * d + 64 := pk_cl _ (sn_ad _ 64 rfl)
  have c5 : (nI (170 * d) + 65).toNatClampNeg = 170 * d + 65 := pk_cl _ (sn_ad _ 65 rfl)
  have c6 : (nI (170 * d) + 66).toNatClampNeg = 170 * d + 66 := pk_cl _ (sn_ad _ 66 rfl)
  have c7 : (nI (170 * d) + 67).toNatClampNeg = 170 * d + 67 := pk_cl _ (sn_ad _ 67 rfl)
  have c8 : (nI (170 * d) + 68).toNatClampNeg = 170 * d + 68 := pk_cl _ (sn_ad _ 68 rfl)
  have c9 : (nI (170 * d) + 69).toNatClampNeg = 170 * d + 69 := pk_cl _ (sn_ad _ 69 rfl)
  have go : ∀ m k n, k + m = 64 → m < n → wY_save_8 post (nI (170 * d)) f_cap f_hcap f_len f_caret f_sel f_bodyLen f_sBodyLen f_merge f_session f_selected f_active f_nItems f_finalIdx f_fromStruct f_baseLen f_baseP f_rlen f_tlen f_clearAll f_svF f_svL f_hCount n (nI k) a_buf a_body a_sBody a_typed a_tLen a_tText a_kind a_val a_stopOf a_par a_ipos a_prim a_stack a_occ a_base a_rbuf a_tbuf a_svT (sn_cp a_buf 0 a_hist (170 * d) k) := by
    intro m
    induction m with
    | zero =>
      intro k n hi hn
      obtain ⟨n, rfl⟩ : ∃ k, n = k + 1 := ⟨n - 1, by omega⟩
      obtain rfl : k = 64 := by omega
      refine br_t (by decide) ⟨pk_in (170 * d + 64) 2720 (by omega) (sn_ad _ 64 rfl), ?_⟩
      intro y1 e1
      refine ⟨pk_in (170 * d + 65) 2720 (by omega) (sn_ad _ 65 rfl), ?_⟩
      intro y2 e2
      refine ⟨pk_in (170 * d + 66) 2720 (by omega) (sn_ad _ 66 rfl), ?_⟩
      intro y3 e3
      rw [c4] at e1
      rw [c5] at e2
      rw [c6] at e3
      subst e1 e2 e3
      have J2 : ∀ z : Int32, z = f_session → wY_save_93 post (nI (170 * d)) z (nI (170 * d) + 67) f_cap f_hcap f_len f_caret f_sel f_bodyLen f_sBodyLen f_merge f_session f_selected f_active f_nItems f_finalIdx f_fromStruct f_baseLen f_baseP f_rlen f_tlen f_clearAll f_svF f_svL f_hCount a_buf a_body a_sBody a_typed a_tLen a_tText a_kind a_val a_stopOf a_par a_ipos a_prim a_stack a_occ a_base a_rbuf a_tbuf a_svT (upd (upd (upd (sn_cp a_buf 0 a_hist (170 * d) 64) (170 * d + 64) f_len) (170 * d + 65) f_caret) (170 * d + 66) f_sel) := by
        intro z ez
        refine ⟨pk_in (170 * d + 67) 2720 (by omega) (sn_ad _ 67 rfl), ?_⟩
        intro y4 e4
        refine ⟨pk_in (170 * d + 68) 2720 (by omega) (sn_ad _ 68 rfl), ?_⟩
        intro y5 e5
        rw [c7, ez] at e4
        rw [c8] at e5
        subst e4 e5
        have v9 : vp_in (nI (170 * d) + 69) 2720 := pk_in (170 * d + 69) 2720 (by omega) (sn_ad _ 69 rfl)
        have J3 : ∀ z : Int32, z = f_selected → ∀ y6 : Nat → Int32, y6 = upd (upd (upd (upd (upd (upd (sn_cp a_buf 0 a_hist (170 * d) 64) (170 * d + 64) f_len) (170 * d + 65) f_caret) (170 * d + 66) f_sel) (170 * d + 67) f_session) (170 * d + 68) f_active) (nI (170 * d) + 69).toNatClampNeg z → ∃ n, wY_save_130 post (nI (170 * d)) f_cap f_hcap f_len f_caret f_sel f_bodyLen f_sBodyLen f_merge f_session f_selected f_active f_nItems f_finalIdx f_fromStruct f_baseLen f_baseP f_rlen f_tlen f_clearAll f_svF f_svL f_hCount n 0 a_buf a_body a_sBody a_typed a_tLen a_tText a_kind a_val a_stopOf a_par a_ipos a_prim a_stack a_occ a_base a_rbuf a_tbuf a_svT y6 := by
          intro z ez y6 e6
          rw [c9, ez] at e6
          subst e6
          refine J _ (fun j hj => ?_) (fun k hk => ?_) ?_ ?_ ?_ ?_ ?_ ?_
          · rw [pk_un (by omega), pk_un (by omega), pk_un (by omega), pk_un (by omega), pk_un (by omega), pk_un (by omega), sn_cpO (by omega)]; exact hs j hj
          · rw [pk_un (by omega), pk_un (by omega), pk_un (by omega), pk_un (by omega), pk_un (by omega), pk_un (by omega), sn_cpI hk, Nat.zero_add]
          · rw [pk_un (by omega), pk_un (by omega), pk_un (by omega), pk_un (by omega), pk_un (by omega), pk_us]
          · rw [pk_un (by omega), pk_un (by omega), pk_un (by omega), pk_un (by omega), pk_us]
          · rw [pk_un (by omega), pk_un (by omega), pk_un (by omega), pk_us]
          · rw [pk_un (by omega), pk_un (by omega), pk_us]
          · rw [pk_un (by omega), pk_us]
          · rw [pk_us]
        rcases hb2 with b | b
        · exact br_t b ⟨v9, J3 0 b.symm⟩
        · exact br_f (by rw [b]; decide) ⟨v9, J3 1 b.symm⟩
      rcases hb1 with b | b
      · exact br_t b (J2 0 b.symm)
      · exact br_f (by rw [b]; decide) (J2 1 b.symm)
    | succ m ih =>
      intro k n hi hn
      obtain ⟨n, rfl⟩ : ∃ k, n = k + 1 := ⟨n - 1, by omega⟩
      refine br_f (nI_ge (a := k) (b := 64) (by omega) (by omega)) ⟨vp_in_nI (by omega) (by omega), ?_⟩
      rw [nI_add]
      refine ⟨vp_in_nI (by omega) (by omega), fun y ey z ez => ?_⟩
      have q := sn_cpS a_buf 0 a_hist (170 * d) k
      rw [Nat.zero_add] at q
      rw [nI_clamp (by omega), nI_clamp (by omega), q] at ey
      rw [ey, ez, nI_1]
      exact ih (k + 1) n (by omega) (by omega)
  have w := go 64 0 65 (by omega) (by omega)
  rw [sn_cp0] at w
  exact ⟨_, w⟩
theorem sn_ypush (e d dep hc : Nat) (h16 : hc ≤ 16) (hed : (dep < hc ∧ e = 0 ∧ d = dep) ∨ (dep = hc ∧ e = 1 ∧ d + 1 = dep)) (hb : ∀ t, t ≤ 9 → sn_b1 (a_typed t)) (hb1 : sn_b1 f_session) (hb2 : sn_b1 f_selected)
    (h : ∀ yh', sn_ysv a_hist yh' (170 * e) d f_len f_caret f_sel f_session f_active f_selected a_buf a_typed a_tLen a_tText → post (f_cap, nI hc, f_len, f_caret, f_sel, f_bodyLen, f_sBodyLen, f_merge, f_session, f_selected, f_active, f_nItems, f_finalIdx, f_fromStruct, f_baseLen, f_baseP, f_rlen, f_tlen, f_clearAll, f_svF, f_svL, nI (d + 1), a_buf, a_body, a_sBody, a_typed, a_tLen, a_tText, a_kind, a_val, a_stopOf, a_par, a_ipos, a_prim, a_stack, a_occ, a_base, a_rbuf, a_tbuf, a_svT, yh')) :
    wpY_push post (f_cap, nI hc, f_len, f_caret, f_sel, f_bodyLen, f_sBodyLen, f_merge, f_session, f_selected, f_active, f_nItems, f_finalIdx, f_fromStruct, f_baseLen, f_baseP, f_rlen, f_tlen, f_clearAll, f_svF, f_svL, nI dep, a_buf, a_body, a_sBody, a_typed, a_tLen, a_tText, a_kind, a_val, a_stopOf, a_par, a_ipos, a_prim, a_stack, a_occ, a_base, a_rbuf, a_tbuf, a_svT, a_hist) := by
  rcases hed with ⟨h1, h2, h3⟩ | ⟨h1, h2, h3⟩
  · subst h2 h3
    refine br_t (nI_lt h1 (by omega)) ?_
    refine sn_ysave 0 d rfl (by omega) (fun j _ => by rw [Nat.zero_add]) hb hb1 hb2 (fun yh' q => ?_)
    intro y ey
    rw [ey, nI_1]
    exact h yh' q
  · subst h2 h1
    refine br_f (nI_nlt (Nat.le_refl _) (by omega)) ?_
    have e1 : nI dep - 1 = nI d := by rw [← h3, nI_pred]
    have e2 : (nI dep - 1) * 170 = nI (170 * d) := by rw [e1, sn_mu d 170 rfl, Nat.mul_comm]
    have go : ∀ m k n, k + m = 170 * d → m < n → wY_push_13 post f_cap (nI dep) f_len f_caret f_sel f_bodyLen f_sBodyLen f_merge f_session f_selected f_active f_nItems f_finalIdx f_fromStruct f_baseLen f_baseP f_rlen f_tlen f_clearAll f_svF f_svL (nI dep) n (nI k) a_buf a_body a_sBody a_typed a_tLen a_tText a_kind a_val a_stopOf a_par a_ipos a_prim a_stack a_occ a_base a_rbuf a_tbuf a_svT (sn_cp a_hist 170 a_hist 0 k) := by
      intro m
      induction m with
      | zero =>
        intro k n hi hn
        obtain ⟨n, rfl⟩ : ∃ k, n = k + 1 := ⟨n - 1, by omega⟩
        obtain rfl : k = 170 * d := by omega
        refine br_t (by rw [e2]; exact nI_le (Nat.le_refl _) (by omega)) ?_
        intro y ey
        rw [e1] at ey
        subst ey
        refine sn_ysave (yh := a_hist) 170 d rfl (by omega) (fun j hj => ?_) hb hb1 hb2 (fun yh' q => ?_)
        · have q := sn_cpI (a := a_hist) (b := a_hist) (p := 170) (q := 0) (n := 170 * d) (j := j) hj
          rw [Nat.zero_add] at q
          exact q
        · intro y ey
          rw [ey, nI_1]
          exact h yh' q
      | succ m ih =>
        intro k n hi hn
        obtain ⟨n, rfl⟩ : ∃ k, n = k + 1 := ⟨n - 1, by omega⟩
        have ix : nI k + 170 = nI (k + 170) := sn_ad _ 170 rfl
        refine br_f (by rw [e2]; exact nI_ge (by omega) (by omega)) ?_
        rw [ix]
        refine br_f (nI_ge (a := k + 170) (b := 2720) (by omega) (by omega)) ⟨vp_in_nI (by omega) (by omega), vp_in_nI (by omega) (by omega), fun y ey z ez => ?_⟩
        have q := sn_cpS a_hist 170 a_hist 0 k
        rw [Nat.zero_add] at q
        rw [nI_clamp (by omega), nI_clamp (by omega), sn_cpO (by omega), Nat.add_comm k 170, q] at ey
        rw [ey, ez, nI_1]
        exact ih (k + 1) n (by omega) (by omega)
    have w := go (170 * d) 0 (170 * d + 1) (by omega) (by omega)
    rw [sn_cp0] at w
    exact ⟨_, w⟩
theorem sn_yrst {x0 : Int32} (d : Nat) (e0 : x0 = nI d) (hd : d < 16) (hb : ∀ t, t ≤ 9 → sn_b1 (a_hist (170 * d + 70 + t))) (hb1 : sn_b1 (a_hist (170 * d + 67))) (hb2 : sn_b1 (a_hist (170 * d + 69)))
    (h : ∀ ty tl : Nat → Int32, (∀ t, t ≤ 9 → ty t = a_hist (170 * d + 70 + t)) → (∀ t, t ≤ 9 → tl t = a_hist (170 * d + 80 + t)) → post (f_cap, f_hcap, a_hist (170 * d + 64), a_hist (170 * d + 65), a_hist (170 * d + 66), f_bodyLen, f_sBodyLen, f_merge, a_hist (170 * d + 67), a_hist (170 * d + 69), a_hist (170 * d + 68), f_nItems, f_finalIdx, f_fromStruct, f_baseLen, f_baseP, f_rlen, f_tlen, f_clearAll, f_svF, f_svL, f_hCount, sn_cp a_hist (170 * d) a_buf 0 64, a_body, a_sBody, ty, tl, sn_cp a_hist (170 * d + 90) a_tText 0 80, a_kind, a_val, a_stopOf, a_par, a_ipos, a_prim, a_stack, a_occ, a_base, a_rbuf, a_tbuf, a_svT, a_hist)) :
    wpY_restore post (f_cap, f_hcap, f_len, f_caret, f_sel, f_bodyLen, f_sBodyLen, f_merge, f_session, f_selected, f_active, f_nItems, f_finalIdx, f_fromStruct, f_baseLen, f_baseP, f_rlen, f_tlen, f_clearAll, f_svF, f_svL, f_hCount, a_buf, a_body, a_sBody, a_typed, a_tLen, a_tText, a_kind, a_val, a_stopOf, a_par, a_ipos, a_prim, a_stack, a_occ, a_base, a_rbuf, a_tbuf, a_svT, a_hist) x0 := by
  subst e0
  intro x ex
  rw [sn_mu d 170 rfl, Nat.mul_comm] at ex
  subst ex
  have L189 : ∀ ty tl : Nat → Int32, (∀ t, t ≤ 9 → ty t = a_hist (170 * d + 70 + t)) → (∀ t, t ≤ 9 → tl t = a_hist (170 * d + 80 + t)) →
      ∃ n, wY_restore_189 post (nI (170 * d)) f_cap f_hcap (a_hist (170 * d + 64)) (a_hist (170 * d + 65)) (a_hist (170 * d + 66)) f_bodyLen f_sBodyLen f_merge (a_hist (170 * d + 67)) (a_hist (170 * d + 69)) (a_hist (170 * d + 68)) f_nItems f_finalIdx f_fromStruct f_baseLen f_baseP f_rlen f_tlen f_clearAll f_svF f_svL f_hCount n 0 (sn_cp a_hist (170 * d) a_buf 0 64) a_body a_sBody ty tl a_tText a_kind a_val a_stopOf a_par a_ipos a_prim a_stack a_occ a_base a_rbuf a_tbuf a_svT a_hist := by
    intro ty tl h1 h2
    have go : ∀ m k n, k + m = 80 → m < n → wY_restore_189 post (nI (170 * d)) f_cap f_hcap (a_hist (170 * d + 64)) (a_hist (170 * d + 65)) (a_hist (170 * d + 66)) f_bodyLen f_sBodyLen f_merge (a_hist (170 * d + 67)) (a_hist (170 * d + 69)) (a_hist (170 * d + 68)) f_nItems f_finalIdx f_fromStruct f_baseLen f_baseP f_rlen f_tlen f_clearAll f_svF f_svL f_hCount n (nI k) (sn_cp a_hist (170 * d) a_buf 0 64) a_body a_sBody ty tl (sn_cp a_hist (170 * d + 90) a_tText 0 k) a_kind a_val a_stopOf a_par a_ipos a_prim a_stack a_occ a_base a_rbuf a_tbuf a_svT a_hist := by
      intro m
      induction m with
      | zero =>
        intro k n hi hn
        obtain ⟨n, rfl⟩ : ∃ k, n = k + 1 := ⟨n - 1, by omega⟩
        obtain rfl : k = 80 := by omega
        exact br_t (by decide) (h ty tl h1 h2)
      | succ m ih =>
        intro k n hi hn
        obtain ⟨n, rfl⟩ : ∃ k, n = k + 1 := ⟨n - 1, by omega⟩
        have ix : nI (170 * d) + 90 + nI k = nI (170 * d + 90 + k) := sn_ad _ _ (sn_ad _ 90 rfl) rfl
        refine br_f (nI_ge (a := k) (b := 80) (by omega) (by omega)) ?_
        rw [ix]
        refine ⟨vp_in_nI (by omega) (by omega), vp_in_nI (by omega) (by omega), fun y ey z ez => ?_⟩
        have q := sn_cpS a_hist (170 * d + 90) a_tText 0 k
        rw [Nat.zero_add] at q
        rw [nI_clamp (by omega), nI_clamp (by omega), q] at ey
        rw [ey, ez, nI_1]
        exact ih (k + 1) n (by omega) (by omega)
    have w := go 80 0 81 (by omega) (by omega)
    rw [sn_cp0] at w
    exact ⟨_, w⟩
  have L132 : ∃ n, wY_restore_132 post (nI (170 * d)) f_cap f_hcap (a_hist (170 * d + 64)) (a_hist (170 * d + 65)) (a_hist (170 * d + 66)) f_bodyLen f_sBodyLen f_merge (a_hist (170 * d + 67)) (a_hist (170 * d + 69)) (a_hist (170 * d + 68)) f_nItems f_finalIdx f_fromStruct f_baseLen f_baseP f_rlen f_tlen f_clearAll f_svF f_svL f_hCount n 0 (sn_cp a_hist (170 * d) a_buf 0 64) a_body a_sBody a_typed a_tLen a_tText a_kind a_val a_stopOf a_par a_ipos a_prim a_stack a_occ a_base a_rbuf a_tbuf a_svT a_hist := by
    have go : ∀ m k n (ty tl : Nat → Int32), k + m = 10 → m < n → (∀ t, t < k → ty t = a_hist (170 * d + 70 + t)) → (∀ t, t < k → tl t = a_hist (170 * d + 80 + t)) →
        wY_restore_132 post (nI (170 * d)) f_cap f_hcap (a_hist (170 * d + 64)) (a_hist (170 * d + 65)) (a_hist (170 * d + 66)) f_bodyLen f_sBodyLen f_merge (a_hist (170 * d + 67)) (a_hist (170 * d + 69)) (a_hist (170 * d + 68)) f_nItems f_finalIdx f_fromStruct f_baseLen f_baseP f_rlen f_tlen f_clearAll f_svF f_svL f_hCount n (nI k) (sn_cp a_hist (170 * d) a_buf 0 64) a_body a_sBody ty tl a_tText a_kind a_val a_stopOf a_par a_ipos a_prim a_stack a_occ a_base a_rbuf a_tbuf a_svT a_hist := by
      intro m
      induction m with
      | zero =>
        intro k n ty tl hi hn h1 h2
        obtain ⟨n, rfl⟩ : ∃ k, n = k + 1 := ⟨n - 1, by omega⟩
        obtain rfl : k = 10 := by omega
        exact br_t (by decide) (L189 ty tl (fun t ht => h1 t (by omega)) (fun t ht => h2 t (by omega)))
      | succ m ih =>
        intro k n ty tl hi hn h1 h2
        obtain ⟨n, rfl⟩ : ∃ k, n = k + 1 := ⟨n - 1, by omega⟩
        have ix : nI (170 * d) + 70 + nI k = nI (170 * d + 70 + k) := sn_ad _ _ (sn_ad _ 70 rfl) rfl
        have iy : nI (170 * d) + 80 + nI k = nI (170 * d + 80 + k) := sn_ad _ _ (sn_ad _ 80 rfl) rfl
        have v10 : vp_in (nI k) 10 := vp_in_nI (by omega) (by omega)
        have J : ∀ z : Int32, z = a_hist (170 * d + 70 + k) → vp_nar .boolean z = z → wY_restore_163 post (wY_restore_132 post (nI (170 * d)) f_cap f_hcap (a_hist (170 * d + 64)) (a_hist (170 * d + 65)) (a_hist (170 * d + 66)) f_bodyLen f_sBodyLen f_merge (a_hist (170 * d + 67)) (a_hist (170 * d + 69)) (a_hist (170 * d + 68)) f_nItems f_finalIdx f_fromStruct f_baseLen f_baseP f_rlen f_tlen f_clearAll f_svF f_svL f_hCount n) (nI (170 * d)) (nI k) z (nI k) f_cap f_hcap (a_hist (170 * d + 64)) (a_hist (170 * d + 65)) (a_hist (170 * d + 66)) f_bodyLen f_sBodyLen f_merge (a_hist (170 * d + 67)) (a_hist (170 * d + 69)) (a_hist (170 * d + 68)) f_nItems f_finalIdx f_fromStruct f_baseLen f_baseP f_rlen f_tlen f_clearAll f_svF f_svL f_hCount (sn_cp a_hist (170 * d) a_buf 0 64) a_body a_sBody ty tl a_tText a_kind a_val a_stopOf a_par a_ipos a_prim a_stack a_occ a_base a_rbuf a_tbuf a_svT a_hist := by
          intro z ez en
          refine ⟨v10, fun y ey => ?_⟩
          rw [iy]
          refine ⟨vp_in_nI (by omega) (by omega), v10, fun u eu w ew => ?_⟩
          rw [nI_clamp (by omega), en, ez] at ey
          rw [nI_clamp (by omega), nI_clamp (by omega)] at eu
          rw [ew, nI_1, eu, ey]
          refine ih (k + 1) n _ _ (by omega) (by omega) (fun t ht => ?_) (fun t ht => ?_)
          · by_cases e : t = k
            · rw [e, pk_us]
            · rw [pk_un e]; exact h1 t (by omega)
          · by_cases e : t = k
            · rw [e, pk_us]
            · rw [pk_un e]; exact h2 t (by omega)
        refine br_f (nI_ge (a := k) (b := 10) (by omega) (by omega)) ?_
        rw [ix]
        refine ⟨vp_in_nI (by omega) (by omega), ?_⟩
        rw [nI_clamp (show 170 * d + 70 + k < 2 ^ 31 by omega)]
        rcases hb k (by omega) with b | b
        · exact br_f (by rw [b]; decide) (J 0 b.symm sn_nar0)
        · exact br_t b (J 1 b.symm sn_nar1)
    exact ⟨_, go 10 0 11 _ _ (by omega) (by omega) (fun t ht => absurd ht (by omega)) (fun t ht => absurd ht (by omega))⟩
  have c4 : (nI (170 * d) + 64).toNatClampNeg = 170 * d + 64 := pk_cl _ (sn_ad _ 64 rfl)
  have c5 : (nI (170 * d) + 65).toNatClampNeg = 170 * d + 65 := pk_cl _ (sn_ad _ 65 rfl)
  have c6 : (nI (170 * d) + 66).toNatClampNeg = 170 * d + 66 := pk_cl _ (sn_ad _ 66 rfl)
  have c7 : (nI (170 * d) + 67).toNatClampNeg = 170 * d + 67 := pk_cl _ (sn_ad _ 67 rfl)
  have c8 : (nI (170 * d) + 68).toNatClampNeg = 170 * d + 68 := pk_cl _ (sn_ad _ 68 rfl)
  have c9 : (nI (170 * d) + 69).toNatClampNeg = 170 * d + 69 := pk_cl _ (sn_ad _ 69 rfl)
  have go : ∀ m k n, k + m = 64 → m < n → wY_restore_8 post (nI (170 * d)) f_cap f_hcap f_len f_caret f_sel f_bodyLen f_sBodyLen f_merge f_session f_selected f_active f_nItems f_finalIdx f_fromStruct f_baseLen f_baseP f_rlen f_tlen f_clearAll f_svF f_svL f_hCount n (nI k) (sn_cp a_hist (170 * d) a_buf 0 k) a_body a_sBody a_typed a_tLen a_tText a_kind a_val a_stopOf a_par a_ipos a_prim a_stack a_occ a_base a_rbuf a_tbuf a_svT a_hist := by
    intro m
    induction m with
    | zero =>
      intro k n hi hn
      obtain ⟨n, rfl⟩ : ∃ k, n = k + 1 := ⟨n - 1, by omega⟩
      obtain rfl : k = 64 := by omega
      refine br_t (by decide) ⟨pk_in (170 * d + 64) 2720 (by omega) (sn_ad _ 64 rfl), ?_⟩
      intro y1 e1
      refine ⟨pk_in (170 * d + 65) 2720 (by omega) (sn_ad _ 65 rfl), ?_⟩
      intro y2 e2
      refine ⟨pk_in (170 * d + 66) 2720 (by omega) (sn_ad _ 66 rfl), ?_⟩
      intro y3 e3
      refine ⟨pk_in (170 * d + 67) 2720 (by omega) (sn_ad _ 67 rfl), ?_⟩
      rw [c4] at e1
      rw [c5] at e2
      rw [c6] at e3
      subst e1 e2 e3
      rw [c7]
      have J2 : ∀ z : Int32, z = a_hist (170 * d + 67) → sn_b1 z → wY_restore_92 post (nI (170 * d)) z f_cap f_hcap (a_hist (170 * d + 64)) (a_hist (170 * d + 65)) (a_hist (170 * d + 66)) f_bodyLen f_sBodyLen f_merge f_session f_selected f_active f_nItems f_finalIdx f_fromStruct f_baseLen f_baseP f_rlen f_tlen f_clearAll f_svF f_svL f_hCount (sn_cp a_hist (170 * d) a_buf 0 64) a_body a_sBody a_typed a_tLen a_tText a_kind a_val a_stopOf a_par a_ipos a_prim a_stack a_occ a_base a_rbuf a_tbuf a_svT a_hist := by
        intro z ez hz
        refine ⟨?_, ?_, pk_in (170 * d + 68) 2720 (by omega) (sn_ad _ 68 rfl), ?_⟩
        · rcases hz with b | b <;> rw [b] <;> rfl
        · rcases hz with b | b <;> rw [b] <;> rfl
        · intro y4 e4
          refine ⟨pk_in (170 * d + 69) 2720 (by omega) (sn_ad _ 69 rfl), ?_⟩
          rw [c8] at e4
          subst e4 ez
          rw [c9]
          rcases hb2 with b | b
          · rw [b] at L132
            exact br_f (by rw [b]; decide) L132
          · rw [b] at L132
            exact br_t b L132
      rcases hb1 with b | b
      · exact br_f (by rw [b]; decide) (J2 0 b.symm (Or.inl rfl))
      · exact br_t b (J2 1 b.symm (Or.inr rfl))
    | succ m ih =>
      intro k n hi hn
      obtain ⟨n, rfl⟩ : ∃ k, n = k + 1 := ⟨n - 1, by omega⟩
      refine br_f (nI_ge (a := k) (b := 64) (by omega) (by omega)) ?_
      rw [nI_add]
      refine ⟨vp_in_nI (by omega) (by omega), vp_in_nI (by omega) (by omega), fun y ey z ez => ?_⟩
      have q := sn_cpS a_hist (170 * d) a_buf 0 k
      rw [Nat.zero_add] at q
      rw [nI_clamp (by omega), nI_clamp (by omega), q] at ey
      rw [ey, ez, nI_1]
      exact ih (k + 1) n (by omega) (by omega)
  have w := go 64 0 65 (by omega) (by omega)
  rw [sn_cp0] at w
  exact ⟨_, w⟩
end SNU
end
section
section SNV
/-! Y: the parse -/
def sn_YD (g : sn_G) (ni fi : Int32) (ki va so pr pm sk oc : Nat → Int32) : Prop :=
  sn_YS g.2.1 g.2.2.2.2.1 g.2.2.2.2.2.1 g.2.2.2.2.2.2.1 g.2.2.2.2.2.2.2.1 g.2.2.2.2.2.2.2.2.2.1 g.2.2.2.2.2.2.2.2.2.2.2 ni fi ki va so pr pm ∧
  (∀ k, k < g.2.2.1 → sk k = nI (g.2.2.2.2.2.2.2.2.2.1 (g.2.2.2.2.2.2.2.1 (g.2.2.2.1 k)))) ∧ (∀ s, s ≤ 9 → oc s = if g.2.2.2.2.2.2.2.1 s = 1000 then 0 else 1)
variable {i c d : Nat} {st K : Nat → Nat} {V : Nat → Int32} {S oa ca sg dp pa : Nat → Nat} {ni fi : Int32} {ki va so pr pm sk oc : Nat → Int32} {n : Nat}
theorem sn_ytp (P : sn_PI c d st K V S oa ca sg dp pa) : sn_top d st = 0 ∨ (oa (sn_top d st) < c ∧ 1 ≤ sn_top d st) := by
  unfold sn_top
  by_cases z : d = 0
  · rw [if_pos z]; exact Or.inl rfl
  · have q := P.2.2.2.2.2.1.1 (d - 1) (by omega)
    rw [if_neg z]; exact Or.inr ⟨q.2.2.1, q.1⟩
theorem sn_ysk (P : sn_PI c d st K V S oa ca sg dp pa) (hk : ∀ k, k < d → sk k = nI (sg (oa (st k)))) (z : 0 < d) : sk (d - 1) = sn_yp sg oa (sn_top d st) := by
  have q := P.2.2.2.2.2.1.1 (d - 1) (by omega)
  unfold sn_top sn_yp
  rw [if_neg (show ¬ d = 0 by omega), if_neg (show ¬ st (d - 1) = 0 by omega)]
  exact hk (d - 1) (by omega)
theorem sn_ytp0 (z : d = 0) : sn_yp sg oa (sn_top d st) = -1 := by
  unfold sn_top sn_yp; rw [if_pos z, if_pos rfl]
theorem sn_YDA {k s w : Nat} {v kk vv : Int32} (P : sn_PI c d st K V S oa ca sg dp pa) (D : sn_YD (i, c, d, st, K, V, S, oa, ca, sg, dp, pa) ni fi ki va so pr pm sk oc) (hyk : sn_yk k v kk vv) :
    sn_YD (sn_gA k v s w (i, c, d, st, K, V, S, oa, ca, sg, dp, pa)) (nI (sg c + 1)) fi (upd ki (sg c) kk) (upd va (sg c) vv) (upd so (sg c) (nI s)) (upd pr (sg c) (sn_yp sg oa (sn_top d st))) pm sk oc := by
  refine ⟨sn_yA P D.1 hyk ((sn_ytp P).imp id (fun z => z.1)) rfl, fun k hk => ?_, D.2.2⟩
  have q := P.2.2.2.2.2.1.1 k hk
  have e := D.2.1 k hk
  show sk k = nI (sn_u sg (c + 1) (sg c + 1) (oa (st k)))
  rw [sn_un (by omega)]; exact e
theorem sn_YDF {w : Nat} {kk vv : Int32} (P : sn_PI c d st K V S oa ca sg dp pa) (D : sn_YD (i, c, d, st, K, V, S, oa, ca, sg, dp, pa) ni fi ki va so pr pm sk oc) (hkk : kk = 4) :
    sn_YD (sn_gF w (i, c, d, st, K, V, S, oa, ca, sg, dp, pa)) (nI (sg c + 1)) (nI (sg c)) (upd ki (sg c) kk) (upd va (sg c) vv) (upd so (sg c) (nI 0)) (upd pr (sg c) (sn_yp sg oa (sn_top d st))) pm sk (upd oc 0 1) := by
  have h0 := P.1
  have a := sn_yF (y := c) (sn_yA (k := 3) (s := 0) (v := 0) (kk := kk) (vv := vv) P D.1 ⟨fun z => by omega, fun z => by omega, fun _ => hkk, fun z => by omega⟩ ((sn_ytp P).imp id (fun z => z.1)) rfl) (by omega)
  rw [sn_un (show c ≠ c + 1 by omega)] at a
  refine ⟨a, fun k hk => ?_, fun s hs => ?_⟩
  · have q := P.2.2.2.2.2.1.1 k hk
    have e := D.2.1 k hk
    show sk k = nI (sn_u sg (c + 1) (sg c + 1) (sn_u oa 0 c (st k)))
    rw [sn_un (show st k ≠ 0 by omega), sn_un (by omega)]; exact e
  · show upd oc 0 1 s = if sn_u oa 0 c s = 1000 then 0 else 1
    by_cases e : s = 0
    · rw [e, pk_us, sn_us, if_neg (by omega)]
    · rw [pk_un e, sn_un e]; exact D.2.2 s hs
theorem sn_yOp {s w : Nat} {kk vv : Int32} (P : sn_PI c d st K V S oa ca sg dp pa) (D : sn_YS c K V S oa sg pa ni fi ki va so pr pm) (hs1 : 1 ≤ s) (hs : oa s = 1000) (hkk : kk = 1 ∨ kk = 2) :
    sn_YS (c + 1) (sn_u K c 1) (upd V c (nI s)) (sn_u S c s) (sn_u oa s c) (sn_u sg (c + 1) (sg c + 1)) (sn_u pa c (sn_top d st)) (nI (sg c + 1)) fi (upd ki (sg c) kk) (upd va (sg c) vv) (upd so (sg c) (nI s)) (upd pr (sg c) (sn_yp sg oa (sn_top d st))) (upd pm s (nI (sg c))) := by
  have h0 := P.1
  have a := sn_yO (s := s) (y := c) (sn_yA (k := 1) (s := s) (v := nI s) (kk := kk) (vv := vv) P D ⟨fun z => by omega, fun _ => hkk, fun z => by omega, fun z => by omega⟩ ((sn_ytp P).imp id (fun z => z.1)) rfl) hs1 (by omega) hs (fun x hx hk => ?_)
  · rw [sn_un (show c ≠ c + 1 by omega)] at a
    exact a
  · by_cases e : x = c
    · rw [e, sn_us]
      exact (sn_ytp P).imp id (fun z => by omega)
    · rw [sn_un e] at hk
      rw [sn_un e]
      exact (sn_pa0 P (by omega) hk).imp id (fun z => by omega)
theorem sn_ySt {s : Nat} (P : sn_PI c d st K V S oa ca sg dp pa) (hs : oa s = 1000) (hk : ∀ k, k < d → sk k = nI (sg (oa (st k)))) {sg' : Nat → Nat} (hsg : ∀ x, x < c → sg' x = sg x) : ∀ k, k < d → sk k = nI (sg' (sn_u oa s c (st k))) := by
  intro k z
  have q := P.2.2.2.2.2.1.1 k z
  have h0 := P.1
  rw [sn_un (fun e => by rw [e] at q; omega), hsg _ q.2.2.1]; exact hk k z
theorem sn_yOc {s : Nat} (hc : c ≠ 1000) (h : ∀ t, t ≤ 9 → oc t = if oa t = 1000 then 0 else 1) : ∀ t, t ≤ 9 → upd oc s 1 t = if sn_u oa s c t = 1000 then 0 else 1 := by
  intro t ht
  by_cases e : t = s
  · rw [e, pk_us, sn_us, if_neg hc]
  · rw [pk_un e, sn_un e]; exact h t ht
theorem sn_YDO {s w : Nat} {kk vv : Int32} (P : sn_PI c d st K V S oa ca sg dp pa) (D : sn_YD (i, c, d, st, K, V, S, oa, ca, sg, dp, pa) ni fi ki va so pr pm sk oc) (hs1 : 1 ≤ s) (hs : oa s = 1000) (hkk : kk = 1 ∨ kk = 2) :
    sn_YD (sn_gO s w (i, c, d, st, K, V, S, oa, ca, sg, dp, pa)) (nI (sg c + 1)) fi (upd ki (sg c) kk) (upd va (sg c) vv) (upd so (sg c) (nI s)) (upd pr (sg c) (sn_yp sg oa (sn_top d st))) (upd pm s (nI (sg c))) (upd sk d (nI (sg c))) (upd oc s 1) := by
  have h0 := P.1
  refine ⟨sn_yOp (w := w) P D.1 hs1 hs hkk, fun k hk => ?_, sn_yOc (by omega) D.2.2⟩
  have hk' : k < d + 1 := hk
  show upd sk d (nI (sg c)) k = nI (sn_u sg (c + 1) (sg c + 1) (sn_u oa s c (sn_u st d s k)))
  by_cases e : k = d
  · rw [e, pk_us, sn_us, sn_us, sn_un (by omega)]
  · rw [pk_un e, sn_un e]
    exact sn_ySt P hs D.2.1 (fun x hx => sn_un (by omega)) k (by omega)
theorem sn_YDR {s w : Nat} {kk vv : Int32} (P : sn_PI c d st K V S oa ca sg dp pa) (hc9 : c < 900) (hd4 : d ≤ 4) (hs9 : s ≤ 9) (D : sn_YD (i, c, d, st, K, V, S, oa, ca, sg, dp, pa) ni fi ki va so pr pm sk oc) (hs1 : 1 ≤ s) (hs : oa s = 1000) (hkk : kk = 1 ∨ kk = 2) :
    sn_YD (sn_gC 0 (sn_gO s w (i, c, d, st, K, V, S, oa, ca, sg, dp, pa))) (nI (sg c + 1)) fi (upd ki (sg c) kk) (upd va (sg c) vv) (upd so (sg c) (nI s)) (upd pr (sg c) (sn_yp sg oa (sn_top d st))) (upd pm s (nI (sg c))) sk (upd oc s 1) := by
  have h0 := P.1
  have Q := sn_Po P hc9 hd4 hs1 hs9 hs
  refine ⟨sn_yC Q (sn_yOp (w := w) P D.1 hs1 hs hkk), fun k hk => ?_, sn_yOc (by omega) D.2.2⟩
  have hk' : k < d + 1 - 1 := hk
  show sk k = nI (sn_u (sn_u sg (c + 1) (sg c + 1)) (c + 1 + 1) _ (sn_u oa s c (sn_u st d s k)))
  rw [sn_un (show k ≠ d by omega)]
  exact sn_ySt P hs D.2.1 (fun x hx => by rw [sn_un (by omega), sn_un (by omega)]) k (by omega)
theorem sn_YDC {w : Nat} (P : sn_PI c d st K V S oa ca sg dp pa) (z : 0 < d) (D : sn_YD (i, c, d, st, K, V, S, oa, ca, sg, dp, pa) ni fi ki va so pr pm sk oc) : sn_YD (sn_gC w (i, c, d, st, K, V, S, oa, ca, sg, dp, pa)) ni fi ki va so pr pm sk oc := by
  refine ⟨sn_yC P D.1, fun k hk => ?_, D.2.2⟩
  have hk' : k < d - 1 := hk
  have q := P.2.2.2.2.2.1.1 k (by omega)
  have e := D.2.1 k (show k < d by omega)
  show sk k = nI (sn_u sg (c + 1) (sg c + 0) (oa (st k)))
  rw [sn_un (by omega)]; exact e
def sn_YK (post : Int32 → SY → Prop) (f_cap f_hcap f_len f_caret f_sel f_bodyLen f_sBodyLen f_merge f_session f_selected f_active f_fromStruct f_baseLen f_baseP f_rlen f_tlen f_clearAll f_svF f_svL f_hCount : Int32) (a_buf a_body a_sBody a_typed a_tLen a_tText a_ipos a_base a_rbuf a_tbuf a_svT a_hist : Nat → Int32) (r : Option sn_G) : Prop :=
  (r = none → ∀ (ni fi : Int32) (ki va so pr pm sk oc : Nat → Int32), post 0 (f_cap, f_hcap, f_len, f_caret, f_sel, f_bodyLen, f_sBodyLen, f_merge, f_session, f_selected, f_active, ni, fi, f_fromStruct, f_baseLen, f_baseP, f_rlen, f_tlen, f_clearAll, f_svF, f_svL, f_hCount, a_buf, a_body, a_sBody, a_typed, a_tLen, a_tText, ki, va, so, pr, a_ipos, pm, sk, oc, a_base, a_rbuf, a_tbuf, a_svT, a_hist)) ∧
  (∀ g : sn_G, r = some g → ∀ (ni fi : Int32) (ki va so pr pm sk oc : Nat → Int32), sn_YD g ni fi ki va so pr pm sk oc → post 1 (f_cap, f_hcap, f_len, f_caret, f_sel, f_bodyLen, f_sBodyLen, f_merge, f_session, f_selected, f_active, ni, fi, f_fromStruct, f_baseLen, f_baseP, f_rlen, f_tlen, f_clearAll, f_svF, f_svL, f_hCount, a_buf, a_body, a_sBody, a_typed, a_tLen, a_tText, ki, va, so, pr, a_ipos, pm, sk, oc, a_base, a_rbuf, a_tbuf, a_svT, a_hist))
def sn_YJ (post : Int32 → SY → Prop) (n m : Nat) (x4 : Int32) (f_cap f_hcap f_len f_caret f_sel f_bodyLen f_sBodyLen f_merge f_session f_selected f_active f_fromStruct f_baseLen f_baseP f_rlen f_tlen f_clearAll f_svF f_svL f_hCount : Int32) (a_buf a_body a_sBody a_typed a_tLen a_tText a_ipos a_base a_rbuf a_tbuf a_svT a_hist : Nat → Int32) (r : Option sn_G) : Prop :=
  (r = none → ∀ (ni fi : Int32) (ki va so pr pm sk oc : Nat → Int32), post 0 (f_cap, f_hcap, f_len, f_caret, f_sel, f_bodyLen, f_sBodyLen, f_merge, f_session, f_selected, f_active, ni, fi, f_fromStruct, f_baseLen, f_baseP, f_rlen, f_tlen, f_clearAll, f_svF, f_svL, f_hCount, a_buf, a_body, a_sBody, a_typed, a_tLen, a_tText, ki, va, so, pr, a_ipos, pm, sk, oc, a_base, a_rbuf, a_tbuf, a_svT, a_hist)) ∧
  (∀ g : sn_G, r = some g → ∀ (ni fi : Int32) (ki va so pr pm sk oc : Nat → Int32), sn_YD g ni fi ki va so pr pm sk oc → ∀ y : Int32, y = x4 + 1 → wY_parse_64 post (nI n) m (nI g.2.2.1) (nI g.1) y f_cap f_hcap f_len f_caret f_sel f_bodyLen f_sBodyLen f_merge f_session f_selected f_active ni fi f_fromStruct f_baseLen f_baseP f_rlen f_tlen f_clearAll f_svF f_svL f_hCount a_buf a_body a_sBody a_typed a_tLen a_tText ki va so pr a_ipos pm sk oc a_base a_rbuf a_tbuf a_svT a_hist)
variable {f_cap f_hcap f_len f_caret f_sel f_bodyLen f_sBodyLen f_merge f_session f_selected f_active f_nItems f_finalIdx f_fromStruct f_baseLen f_baseP f_rlen f_tlen f_clearAll f_svF f_svL f_hCount : Int32} {a_buf a_body a_sBody a_typed a_tLen a_tText a_kind a_val a_stopOf a_par a_ipos a_prim a_stack a_occ a_base a_rbuf a_tbuf a_svT a_hist : Nat → Int32}
variable {g : sn_G}
theorem sn_yadd {post : SY → Prop} {x0 x1 x2 x3 p : Int32} (N d : Nat) (hN : N < 72) (e3 : x3 = nI d) (hd : d ≤ 4) (hp : d = 0 → p = -1) (hp' : 0 < d → a_stack (d - 1) = p)
    (h : post (f_cap, f_hcap, f_len, f_caret, f_sel, f_bodyLen, f_sBodyLen, f_merge, f_session, f_selected, f_active, nI (N + 1), f_finalIdx, f_fromStruct, f_baseLen, f_baseP, f_rlen, f_tlen, f_clearAll, f_svF, f_svL, f_hCount, a_buf, a_body, a_sBody, a_typed, a_tLen, a_tText, upd a_kind N x0, upd a_val N x1, upd a_stopOf N x2, upd a_par N p, a_ipos, a_prim, a_stack, a_occ, a_base, a_rbuf, a_tbuf, a_svT, a_hist)) : wpY_add post (f_cap, f_hcap, f_len, f_caret, f_sel, f_bodyLen, f_sBodyLen, f_merge, f_session, f_selected, f_active, nI N, f_finalIdx, f_fromStruct, f_baseLen, f_baseP, f_rlen, f_tlen, f_clearAll, f_svF, f_svL, f_hCount, a_buf, a_body, a_sBody, a_typed, a_tLen, a_tText, a_kind, a_val, a_stopOf, a_par, a_ipos, a_prim, a_stack, a_occ, a_base, a_rbuf, a_tbuf, a_svT, a_hist) x0 x1 x2 x3 := by
  subst e3
  have v72 : vp_in (nI N) 72 := vp_in_nI (by omega) (by omega)
  have cN : (nI N).toNatClampNeg = N := nI_clamp (by omega)
  refine br_t (nI_lt (a := N) (b := 72) hN (by omega)) ⟨v72, fun y ey => ⟨v72, fun z ez => ⟨v72, fun w ew => ?_⟩⟩⟩
  rw [cN] at ey ez ew
  subst ey ez ew
  have J : ∀ q : Int32, q = p → wY_add_66 post q (nI N) f_cap f_hcap f_len f_caret f_sel f_bodyLen f_sBodyLen f_merge f_session f_selected f_active (nI N) f_finalIdx f_fromStruct f_baseLen f_baseP f_rlen f_tlen f_clearAll f_svF f_svL f_hCount a_buf a_body a_sBody a_typed a_tLen a_tText (upd a_kind N x0) (upd a_val N x1) (upd a_stopOf N x2) a_par a_ipos a_prim a_stack a_occ a_base a_rbuf a_tbuf a_svT a_hist := by
    intro q eq
    refine ⟨v72, fun y ey z ez => ?_⟩
    rw [cN, eq] at ey
    rw [ez, nI_1, ey]; exact h
  by_cases z : d = 0
  · exact br_t (by rw [z]; decide) (J _ (hp z).symm)
  · have ix : nI d - 1 = nI (d - 1) := sn_sb d 1 (by omega) rfl
    refine br_f (nI_nle (by omega) (by omega)) ?_
    rw [ix]
    refine ⟨vp_in_nI (by omega) (by omega), ?_⟩
    rw [nI_clamp (show d - 1 < 2 ^ 31 by omega)]
    exact J _ (hp' (by omega))
theorem sn_gsB (GI : sn_GI n g) : g.2.2.2.2.2.2.2.2.2.1 g.2.1 ≤ g.2.1 ∧ g.2.1 ≤ 64 := by
  have a := sn_sgx (x := g.2.1) GI.1.2.1 (Nat.le_refl _)
  have b := GI.2.1
  have c := GI.2.2.1
  have d := GI.2.2.2.1
  exact ⟨a, by omega⟩
theorem sn_yRef {post : Int32 → SY → Prop} {x0 x1 : Int32} (s w : Nat) (e0 : x0 = nI s) (e1 : x1 = nI g.2.2.1) (hs : s ≤ 9) (GI : sn_GI n g) (D : sn_YD g f_nItems f_finalIdx a_kind a_val a_stopOf a_par a_prim a_stack a_occ) (h : sn_YK post f_cap f_hcap f_len f_caret f_sel f_bodyLen f_sBodyLen f_merge f_session f_selected f_active f_fromStruct f_baseLen f_baseP f_rlen f_tlen f_clearAll f_svF f_svL f_hCount a_buf a_body a_sBody a_typed a_tLen a_tText a_ipos a_base a_rbuf a_tbuf a_svT a_hist (sn_gRef s w g)) : wpY_ref post (f_cap, f_hcap, f_len, f_caret, f_sel, f_bodyLen, f_sBodyLen, f_merge, f_session, f_selected, f_active, f_nItems, f_finalIdx, f_fromStruct, f_baseLen, f_baseP, f_rlen, f_tlen, f_clearAll, f_svF, f_svL, f_hCount, a_buf, a_body, a_sBody, a_typed, a_tLen, a_tText, a_kind, a_val, a_stopOf, a_par, a_ipos, a_prim, a_stack, a_occ, a_base, a_rbuf, a_tbuf, a_svT, a_hist) x0 x1 := by
  subst e0
  have B := sn_gsB GI
  unfold sn_gRef at h
  obtain ⟨i, c, d, st, K, V, S, oa, ca, sg, dp, pa⟩ := g
  obtain ⟨P, g1, g2, g3, g4⟩ := GI
  dsimp only at P g1 g2 g4 B e1
  have h0 := P.1
  have o0 := D.2.2 0 (by omega)
  have os := D.2.2 s hs
  have en : f_nItems = nI (sg c) := D.1.1
  subst en e1
  by_cases s0 : s = 0
  · subst s0
    rw [if_pos rfl] at h
    unfold sn_gFin at h
    refine br_t rfl ?_
    by_cases z : 0 < d
    · exact br_t (nI_lt (a := 0) (b := d) z (by omega)) (h.1 (if_pos (Or.inl z)) _ _ _ _ _ _ _ _ _)
    · refine br_f (fun y => z ((nI_ltI (a := 0) (b := d) (by omega) (by omega)).mp y)) ?_
      have d0 : d = 0 := by omega
      subst d0
      by_cases oz : oa 0 = 1000
      · have o0' : a_occ 0 = 0 := by rw [o0]; exact if_pos oz
        refine br_t o0' ?_
        intro y ey
        rw [sn_nar1] at ey
        subst ey
        refine sn_yadd (p := sn_yp sg oa (sn_top 0 st)) (sg c) 0 (by omega) rfl (by omega) (fun _ => sn_ytp0 rfl) (fun z => absurd z (by omega)) ?_
        refine h.2 _ (if_neg (fun y => ?_)) _ _ _ _ _ _ _ _ _ (sn_YDF P D rfl)
        rcases y with y | y
        · exact z y
        · exact y oz
      · have o0' : ¬ a_occ 0 = 0 := by
          rw [o0]
          show ¬ (if oa 0 = 1000 then (0 : Int32) else 1) = 0
          rw [if_neg oz]; decide
        exact br_f o0' (h.1 (if_pos (Or.inr oz)) _ _ _ _ _ _ _ _ _)
  · rw [if_neg s0] at h
    refine br_f (sn_ne s0 (by omega) (by omega)) ⟨vp_in_nI (by omega) (by omega), ?_⟩
    rw [nI_clamp (show s < 2 ^ 31 by omega)]
    by_cases oz : oa s = 1000
    · have os' : a_occ s = 0 := by rw [os]; exact if_pos oz
      rw [if_pos (show sn_go (i, c, d, st, K, V, S, oa, ca, sg, dp, pa) s = 1000 from oz)] at h
      refine br_t os' ⟨vp_in_nI (by omega) (by omega), fun y ey => ⟨vp_in_nI (by omega) (by omega), fun z ez => ?_⟩⟩
      rw [sn_nar1] at ey
      subst ey ez
      refine sn_yadd (p := sn_yp sg oa (sn_top d st)) (sg c) d (by omega) rfl g4 (fun z => sn_ytp0 z) (fun z => sn_ysk P D.2.1 z) ?_
      exact h.2 _ rfl _ _ _ _ _ _ _ _ _ (sn_YDR P (by omega) g4 hs D (by omega) oz (Or.inl rfl))
    · have os' : ¬ a_occ s = 0 := by
        rw [os]
        show ¬ (if oa s = 1000 then (0 : Int32) else 1) = 0
        rw [if_neg oz]; decide
      rw [if_neg (show ¬ sn_go (i, c, d, st, K, V, S, oa, ca, sg, dp, pa) s = 1000 from oz)] at h
      unfold sn_gMir at h
      refine br_f os' ?_
      by_cases z : 0 < d
      · exact br_f (nI_nle z (by omega)) (h.1 (if_pos (Or.inl z)) _ _ _ _ _ _ _ _ _)
      · have d0 : d = 0 := by omega
        subst d0
        refine br_t (by decide) ?_
        refine sn_yadd (p := sn_yp sg oa (sn_top 0 st)) (sg c) 0 (by omega) rfl (by omega) (fun _ => sn_ytp0 rfl) (fun z => absurd z (by omega)) ?_
        refine h.2 _ (if_neg (fun y => ?_)) _ _ _ _ _ _ _ _ _ (sn_YDA P D ⟨fun z => by omega, fun z => by omega, fun z => by omega, fun _ => ⟨rfl, rfl⟩⟩)
        rcases y with y | y | y
        · exact z y
        · exact s0 y
        · exact oz y
end SNV
end
section
section SNW
/-! Y: the parse, reading -/
def sn_src (fs : Int32) (bd sb b : Nat → Int32) : Prop := (fs = 0 ∧ bd = b) ∨ (¬ fs = 0 ∧ sb = b)
theorem sn_refD {s w : Nat} {g g' : sn_G} (e : sn_gRef s w g = some g') : g'.2.2.1 = g.2.2.1 ∧ g'.1 = g.1 + w := by
  obtain ⟨i, c, d, st, K, V, S, oa, ca, sg, dp, pa⟩ := g
  unfold sn_gRef at e
  by_cases z : s = 0
  · rw [if_pos z] at e
    unfold sn_gFin at e
    split at e
    · exact absurd e (by simp)
    · cases e; exact ⟨rfl, rfl⟩
  · rw [if_neg z] at e
    split at e
    · cases e; exact ⟨rfl, rfl⟩
    · unfold sn_gMir at e
      split at e
      · exact absurd e (by simp)
      · cases e; exact ⟨rfl, rfl⟩
theorem sn_cc {α : Type} (k t : Nat) (x : Int32) (a : Option α) (hk : k ≠ 0) (ht : t ≠ 0) : (if k = 0 ∨ x ≠ 125 then none else a) = if t = 0 ∨ x ≠ 125 then none else a := by
  by_cases q : x = 125
  · rw [if_neg (fun w => by rcases w with w | w; exact hk w; exact w q), if_neg (fun w => by rcases w with w | w; exact ht w; exact w q)]
  · rw [if_pos (Or.inr q), if_pos (Or.inr q)]
variable {f_cap f_hcap f_len f_caret f_sel f_bodyLen f_sBodyLen f_merge f_session f_selected f_active f_nItems f_finalIdx f_fromStruct f_baseLen f_baseP f_rlen f_tlen f_clearAll f_svF f_svL f_hCount : Int32} {a_buf a_body a_sBody a_typed a_tLen a_tText a_kind a_val a_stopOf a_par a_ipos a_prim a_stack a_occ a_base a_rbuf a_tbuf a_svT a_hist : Nat → Int32}
variable {g : sn_G} {n m : Nat} {x4 : Int32} {post : Int32 → SY → Prop} {b : Nat → Int32}
theorem sn_ychr {A : Int32 → Prop} {x1 x3 : Int32} (j : Nat) (e1 : x1 = nI n) (e3 : x3 = nI j) (hj : j < 1000) (hn : n ≤ 64) (hb : sn_src f_fromStruct a_body a_sBody b) (h : A (sn_chr b n j)) : (x1 ≤ x3 → A (-1)) ∧ (¬ x1 ≤ x3 → wpY_src A (f_cap, f_hcap, f_len, f_caret, f_sel, f_bodyLen, f_sBodyLen, f_merge, f_session, f_selected, f_active, f_nItems, f_finalIdx, f_fromStruct, f_baseLen, f_baseP, f_rlen, f_tlen, f_clearAll, f_svF, f_svL, f_hCount, a_buf, a_body, a_sBody, a_typed, a_tLen, a_tText, a_kind, a_val, a_stopOf, a_par, a_ipos, a_prim, a_stack, a_occ, a_base, a_rbuf, a_tbuf, a_svT, a_hist) x3) := by
  subst e1 e3
  unfold sn_chr at h
  by_cases z : j < n
  · rw [if_pos z] at h
    refine br_f (nI_ge z (by omega)) ?_
    have v : vp_in (nI j) 64 := vp_in_nI (by omega) (by omega)
    rcases hb with ⟨a, e⟩ | ⟨a, e⟩
    · refine br_t a ⟨v, ?_⟩
      rw [nI_clamp (by omega), e]; exact h
    · refine br_f a ⟨v, ?_⟩
      rw [nI_clamp (by omega), e]; exact h
  · rw [if_neg z] at h
    exact br_t (nI_le (by omega) (by omega)) h
theorem sn_ysrc {A : Int32 → Prop} {x3 : Int32} (j : Nat) (e3 : x3 = nI j) (hj : j < 64) (hb : sn_src f_fromStruct a_body a_sBody b) (h : A (b j)) : wpY_src A (f_cap, f_hcap, f_len, f_caret, f_sel, f_bodyLen, f_sBodyLen, f_merge, f_session, f_selected, f_active, f_nItems, f_finalIdx, f_fromStruct, f_baseLen, f_baseP, f_rlen, f_tlen, f_clearAll, f_svF, f_svL, f_hCount, a_buf, a_body, a_sBody, a_typed, a_tLen, a_tText, a_kind, a_val, a_stopOf, a_par, a_ipos, a_prim, a_stack, a_occ, a_base, a_rbuf, a_tbuf, a_svT, a_hist) x3 := by
  subst e3
  have v : vp_in (nI j) 64 := vp_in_nI (by omega) (by omega)
  rcases hb with ⟨a, e⟩ | ⟨a, e⟩
  · refine br_t a ⟨v, ?_⟩
    rw [nI_clamp (by omega), e]; exact h
  · refine br_f a ⟨v, ?_⟩
    rw [nI_clamp (by omega), e]; exact h
theorem sn_y444 {x10 : Int32} (s t : Nat) (ht : t ≤ 3) (hs : s ≤ 9) (GI : sn_GI n g) (D : sn_YD g f_nItems f_finalIdx a_kind a_val a_stopOf a_par a_prim a_stack a_occ) {r : Option sn_G} (er : r = if t = 0 ∨ x10 ≠ 125 then none else sn_gMir s (4 + t) 6 g) (h : sn_YJ post n m x4 f_cap f_hcap f_len f_caret f_sel f_bodyLen f_sBodyLen f_merge f_session f_selected f_active f_fromStruct f_baseLen f_baseP f_rlen f_tlen f_clearAll f_svF f_svL f_hCount a_buf a_body a_sBody a_typed a_tLen a_tText a_ipos a_base a_rbuf a_tbuf a_svT a_hist (r)) : wY_parse_444 post (wY_parse_64 post (nI n) m) (nI n) (nI g.2.2.1) (nI g.1) x4 (nI s) x10 (nI t) f_cap f_hcap f_len f_caret f_sel f_bodyLen f_sBodyLen f_merge f_session f_selected f_active f_nItems f_finalIdx f_fromStruct f_baseLen f_baseP f_rlen f_tlen f_clearAll f_svF f_svL f_hCount a_buf a_body a_sBody a_typed a_tLen a_tText a_kind a_val a_stopOf a_par a_ipos a_prim a_stack a_occ a_base a_rbuf a_tbuf a_svT a_hist := by
  subst er
  have B := sn_gsB GI
  by_cases t0 : t = 0
  · rw [if_pos (Or.inl t0)] at h
    exact br_t (by rw [t0]; rfl) (h.1 rfl _ _ _ _ _ _ _ _ _)
  · refine br_f (sn_ne t0 (by omega) (by omega)) ?_
    by_cases e : x10 = 125
    · rw [if_neg (fun q => by rcases q with q | q; exact t0 q; exact q e)] at h
      unfold sn_gMir at h
      obtain ⟨i, c, d, st, K, V, S, oa, ca, sg, dp, pa⟩ := g
      obtain ⟨P, g1, g2, g3, g4⟩ := GI
      dsimp only at P g1 g2 g4 B
      have h0 := P.1
      have os := D.2.2 s hs
      have en : f_nItems = nI (sg c) := D.1.1
      subst en
      refine br_t e ?_
      by_cases s0 : s = 0
      · exact br_t (by rw [s0]; rfl) (h.1 (if_pos (Or.inr (Or.inl s0))) _ _ _ _ _ _ _ _ _)
      · refine br_f (sn_ne s0 (by omega) (by omega)) ⟨vp_in_nI (by omega) (by omega), ?_⟩
        rw [nI_clamp (show s < 2 ^ 31 by omega)]
        by_cases oz : oa s = 1000
        · have os' : a_occ s = 0 := by rw [os]; exact if_pos oz
          exact br_t os' (h.1 (if_pos (Or.inr (Or.inr oz))) _ _ _ _ _ _ _ _ _)
        · have os' : ¬ a_occ s = 0 := by
            rw [os]
            show ¬ (if oa s = 1000 then (0 : Int32) else 1) = 0
            rw [if_neg oz]; decide
          refine br_f os' ?_
          by_cases z : 0 < d
          · exact br_f (nI_nle (n := d) z (by omega)) (h.1 (if_pos (Or.inl z)) _ _ _ _ _ _ _ _ _)
          · have d0 : d = 0 := by omega
            subst d0
            refine br_t (by show (0 : Int32) ≤ 0; decide) ?_
            refine sn_yadd (p := sn_yp sg oa (sn_top 0 st)) (sg c) 0 (by omega) rfl (by omega) (fun _ => sn_ytp0 rfl) (fun z => absurd z (by omega)) ?_
            intro y ey w ew
            rw [ey, sn_ad i 6 rfl]
            refine h.2 _ (if_neg (fun y => ?_)) _ _ _ _ _ _ _ _ _ (sn_YDA P D ⟨fun z => by omega, fun z => by omega, fun z => by omega, fun _ => ⟨rfl, by rw [Nat.add_sub_cancel_left]⟩⟩) w ew
            rcases y with y | y | y
            · exact z y
            · exact s0 y
            · exact oz y
    · rw [if_pos (Or.inr e)] at h
      exact br_f e (h.1 rfl _ _ _ _ _ _ _ _ _)
theorem sn_y408 {x9 x10 : Int32} (s : Nat) (hs : s ≤ 9) (GI : sn_GI n g) (D : sn_YD g f_nItems f_finalIdx a_kind a_val a_stopOf a_par a_prim a_stack a_occ) (h : sn_YJ post n m x4 f_cap f_hcap f_len f_caret f_sel f_bodyLen f_sBodyLen f_merge f_session f_selected f_active f_fromStruct f_baseLen f_baseP f_rlen f_tlen f_clearAll f_svF f_svL f_hCount a_buf a_body a_sBody a_typed a_tLen a_tText a_ipos a_base a_rbuf a_tbuf a_svT a_hist (if sn_tk x9 = 0 ∨ x10 ≠ 125 then none else sn_gMir s (sn_tk x9) 6 g)) : wY_parse_408 post (wY_parse_64 post (nI n) m) (nI n) (nI g.2.2.1) (nI g.1) x4 (nI s) x9 x10 f_cap f_hcap f_len f_caret f_sel f_bodyLen f_sBodyLen f_merge f_session f_selected f_active f_nItems f_finalIdx f_fromStruct f_baseLen f_baseP f_rlen f_tlen f_clearAll f_svF f_svL f_hCount a_buf a_body a_sBody a_typed a_tLen a_tText a_kind a_val a_stopOf a_par a_ipos a_prim a_stack a_occ a_base a_rbuf a_tbuf a_svT a_hist := by
  by_cases a : x9 = 117
  · have e : sn_tk x9 = 5 := by unfold sn_tk; rw [if_pos a]
    rw [e] at h
    exact br_t a (sn_y444 s 1 (by omega) hs GI D (sn_cc 5 1 _ _ (by omega) (by omega)) h)
  · refine br_f a ?_
    by_cases b : x9 = 108
    · have e : sn_tk x9 = 6 := by unfold sn_tk; rw [if_neg a, if_pos b]
      rw [e] at h
      exact br_t b (sn_y444 s 2 (by omega) hs GI D (sn_cc 6 2 _ _ (by omega) (by omega)) h)
    · refine br_f b ?_
      by_cases c : x9 = 99
      · have e : sn_tk x9 = 7 := by unfold sn_tk; rw [if_neg a, if_neg b, if_pos c]
        rw [e] at h
        exact br_t c (sn_y444 s 3 (by omega) hs GI D (sn_cc 7 3 _ _ (by omega) (by omega)) h)
      · have e : sn_tk x9 = 0 := by unfold sn_tk; rw [if_neg a, if_neg b, if_neg c]
        rw [e, if_pos (Or.inl rfl)] at h
        refine br_f c (sn_y444 s 0 (by omega) hs GI D (if_pos (Or.inl rfl)).symm h)
theorem sn_y388 {x9 : Int32} (s : Nat) (hs : s ≤ 9) (GI : sn_GI n g) (D : sn_YD g f_nItems f_finalIdx a_kind a_val a_stopOf a_par a_prim a_stack a_occ) (hb : sn_src f_fromStruct a_body a_sBody b) (h : sn_YJ post n m x4 f_cap f_hcap f_len f_caret f_sel f_bodyLen f_sBodyLen f_merge f_session f_selected f_active f_fromStruct f_baseLen f_baseP f_rlen f_tlen f_clearAll f_svF f_svL f_hCount a_buf a_body a_sBody a_typed a_tLen a_tText a_ipos a_base a_rbuf a_tbuf a_svT a_hist (if sn_tk x9 = 0 ∨ (sn_chr b n (sn_gI g + 5)) ≠ 125 then none else sn_gMir s (sn_tk x9) 6 g)) : wY_parse_388 post (wY_parse_64 post (nI n) m) (nI n) (nI g.2.2.1) (nI g.1) x4 (nI s) x9 f_cap f_hcap f_len f_caret f_sel f_bodyLen f_sBodyLen f_merge f_session f_selected f_active f_nItems f_finalIdx f_fromStruct f_baseLen f_baseP f_rlen f_tlen f_clearAll f_svF f_svL f_hCount a_buf a_body a_sBody a_typed a_tLen a_tText a_kind a_val a_stopOf a_par a_ipos a_prim a_stack a_occ a_base a_rbuf a_tbuf a_svT a_hist := by
  have n64 := GI.2.2.2.1
  have gn := GI.2.2.1
  have hg : sn_gI g = g.1 := rfl
  exact sn_ychr (A := fun r => wY_parse_408 post (wY_parse_64 post (nI n) m) (nI n) (nI g.2.2.1) (nI g.1) x4 (nI s) x9 r f_cap f_hcap f_len f_caret f_sel f_bodyLen f_sBodyLen f_merge f_session f_selected f_active f_nItems f_finalIdx f_fromStruct f_baseLen f_baseP f_rlen f_tlen f_clearAll f_svF f_svL f_hCount a_buf a_body a_sBody a_typed a_tLen a_tText a_kind a_val a_stopOf a_par a_ipos a_prim a_stack a_occ a_base a_rbuf a_tbuf a_svT a_hist) (sn_gI g + 5) rfl (sn_ad _ 5 rfl) (by omega) n64 hb (sn_y408 s hs GI D h)
theorem sn_y235 {x7 : Int32} (e7 : x7 = (sn_chr b n (sn_gI g + 2))) (GI : sn_GI n g) (D : sn_YD g f_nItems f_finalIdx a_kind a_val a_stopOf a_par a_prim a_stack a_occ) (hb : sn_src f_fromStruct a_body a_sBody b) (h : sn_YJ post n m x4 f_cap f_hcap f_len f_caret f_sel f_bodyLen f_sBodyLen f_merge f_session f_selected f_active f_fromStruct f_baseLen f_baseP f_rlen f_tlen f_clearAll f_svF f_svL f_hCount a_buf a_body a_sBody a_typed a_tLen a_tText a_ipos a_base a_rbuf a_tbuf a_svT a_hist (if 48 ≤ (sn_chr b n (sn_gI g + 2)) ∧ (sn_chr b n (sn_gI g + 2)) ≤ 57 then sn_gBr b n (sn_dg (sn_chr b n (sn_gI g + 2))) g else none)) : wY_parse_235 post (wY_parse_64 post (nI n) m) (nI n) (nI g.2.2.1) (nI g.1) x4 x7 (sn_chr b n (sn_gI g + 3)) f_cap f_hcap f_len f_caret f_sel f_bodyLen f_sBodyLen f_merge f_session f_selected f_active f_nItems f_finalIdx f_fromStruct f_baseLen f_baseP f_rlen f_tlen f_clearAll f_svF f_svL f_hCount a_buf a_body a_sBody a_typed a_tLen a_tText a_kind a_val a_stopOf a_par a_ipos a_prim a_stack a_occ a_base a_rbuf a_tbuf a_svT a_hist := by
  have n64 := GI.2.2.2.1
  have gn := GI.2.2.1
  have hg : sn_gI g = g.1 := rfl
  subst e7
  by_cases a : (sn_chr b n (sn_gI g + 2)) < 48
  · rw [if_neg (fun z => absurd a (Int32.not_lt.mpr z.1))] at h
    exact br_t a (h.1 rfl _ _ _ _ _ _ _ _ _)
  · by_cases a2 : (sn_chr b n (sn_gI g + 2)) ≤ 57
    · have r := Int32.not_lt.mp a
      rw [if_pos ⟨r, a2⟩] at h
      have d9 := sn_dg9 r a2
      unfold sn_gBr at h
      refine br_f a (br_t a2 (fun s es => ?_))
      rw [d9.2.2] at es
      subst es
      by_cases k125 : (sn_chr b n (sn_gI g + 3)) = 125
      · rw [if_pos k125] at h
        refine br_t k125 ?_
        refine sn_yRef (w := 4) _ rfl rfl d9.2.1 GI D ⟨fun e ni fi ki va so pr pm sk oc => br_t rfl (h.1 e ni fi ki va so pr pm sk oc), fun g' e ni fi ki va so pr pm sk oc D' => br_f (by decide) (fun y ey z ez => ?_)⟩
        have q := sn_refD e
        rw [ey, sn_ad _ 4 rfl, ← q.2, ← q.1]
        exact h.2 g' e ni fi ki va so pr pm sk oc D' z ez
      · rw [if_neg k125] at h
        refine br_f k125 ?_
        by_cases k58 : (sn_chr b n (sn_gI g + 3)) = 58
        · rw [if_pos k58] at h
          refine br_t k58 ?_
          unfold sn_gOpn at h
          have B := sn_gsB GI
          generalize sn_dg (sn_chr b n (sn_gI g + 2)) = s at d9 h
          obtain ⟨i, c, d, st, K, V, S, oa, ca, sg, dp, pa⟩ := g
          obtain ⟨P, g1, g2, g3, g4⟩ := GI
          dsimp only at P g1 g2 g4 B
          have h0 := P.1
          have s9 := d9.2.1
          have os := D.2.2 s s9
          have en : f_nItems = nI (sg c) := D.1.1
          subst en
          by_cases s0 : s = 0
          · exact br_t (by rw [s0]; rfl) (h.1 (if_pos (Or.inl s0)) _ _ _ _ _ _ _ _ _)
          · refine br_f (sn_ne s0 (by omega) (by omega)) ⟨vp_in_nI (by omega) (by omega), ?_⟩
            rw [nI_clamp (show s < 2 ^ 31 by omega)]
            by_cases oz : oa s = 1000
            · have os' : a_occ s = 0 := by rw [os]; exact if_pos oz
              refine br_t os' ?_
              by_cases d4 : 4 ≤ d
              · exact br_f (nI_nlt (a := d) (b := 4) d4 (by omega)) (h.1 (if_pos (Or.inr (Or.inr d4))) _ _ _ _ _ _ _ _ _)
              · refine br_t (nI_lt (a := d) (b := 4) (by omega) (by omega)) ⟨vp_in_nI (by omega) (by omega), fun y ey => ⟨vp_in_nI (by omega) (by omega), fun z ez => ?_⟩⟩
                rw [sn_nar1] at ey
                subst ey ez
                refine sn_yadd (p := sn_yp sg oa (sn_top d st)) (sg c) d (by omega) rfl g4 (fun z => sn_ytp0 z) (fun z => sn_ysk P D.2.1 z) ?_
                refine ⟨vp_in_nI (n := d) (by omega) (by omega), fun y1 e1 y2 e2 y3 e3 y4 e4 => ?_⟩
                rw [nI_clamp (show d < 2 ^ 31 by omega), nI_pred] at e1
                rw [e1, e2, e3, nI_1, sn_ad i 4 rfl]
                refine h.2 _ (if_neg (fun y => ?_)) _ _ _ _ _ _ _ _ _ (sn_YDO P D (by omega) oz (Or.inr rfl)) y4 e4
                rcases y with y | y | y
                · exact s0 y
                · exact y oz
                · exact d4 y
            · have os' : ¬ a_occ s = 0 := by
                rw [os]
                show ¬ (if oa s = 1000 then (0 : Int32) else 1) = 0
                rw [if_neg oz]; decide
              exact br_f os' (h.1 (if_pos (Or.inr (Or.inl oz))) _ _ _ _ _ _ _ _ _)
        · rw [if_neg k58] at h
          refine br_f k58 ?_
          by_cases k47 : (sn_chr b n (sn_gI g + 3)) = 47
          · rw [if_pos k47] at h
            refine br_t k47 ?_
            unfold sn_gTr at h
            exact sn_ychr (A := fun r => wY_parse_388 post (wY_parse_64 post (nI n) m) (nI n) (nI g.2.2.1) (nI g.1) x4 (nI (sn_dg (sn_chr b n (sn_gI g + 2)))) r f_cap f_hcap f_len f_caret f_sel f_bodyLen f_sBodyLen f_merge f_session f_selected f_active f_nItems f_finalIdx f_fromStruct f_baseLen f_baseP f_rlen f_tlen f_clearAll f_svF f_svL f_hCount a_buf a_body a_sBody a_typed a_tLen a_tText a_kind a_val a_stopOf a_par a_ipos a_prim a_stack a_occ a_base a_rbuf a_tbuf a_svT a_hist) (sn_gI g + 4) rfl (sn_ad _ 4 rfl) (by omega) n64 hb (sn_y388 _ d9.2.1 GI D hb h)
          · rw [if_neg k47] at h
            exact br_f k47 (h.1 rfl _ _ _ _ _ _ _ _ _)
    · rw [if_neg (fun z => a2 z.2)] at h
      exact br_f a (br_f a2 (h.1 rfl _ _ _ _ _ _ _ _ _))
theorem sn_y190 {x6 : Int32} (e6 : x6 = (sn_chr b n (sn_gI g + 1))) (GI : sn_GI n g) (D : sn_YD g f_nItems f_finalIdx a_kind a_val a_stopOf a_par a_prim a_stack a_occ) (hb : sn_src f_fromStruct a_body a_sBody b) (h : sn_YJ post n m x4 f_cap f_hcap f_len f_caret f_sel f_bodyLen f_sBodyLen f_merge f_session f_selected f_active f_fromStruct f_baseLen f_baseP f_rlen f_tlen f_clearAll f_svF f_svL f_hCount a_buf a_body a_sBody a_typed a_tLen a_tText a_ipos a_base a_rbuf a_tbuf a_svT a_hist (if (sn_chr b n (sn_gI g + 1)) = 123 ∧ 48 ≤ (sn_chr b n (sn_gI g + 2)) ∧ (sn_chr b n (sn_gI g + 2)) ≤ 57 then sn_gBr b n (sn_dg (sn_chr b n (sn_gI g + 2))) g else none)) : wY_parse_190 post (wY_parse_64 post (nI n) m) (nI n) (nI g.2.2.1) (nI g.1) x4 x6 f_cap f_hcap f_len f_caret f_sel f_bodyLen f_sBodyLen f_merge f_session f_selected f_active f_nItems f_finalIdx f_fromStruct f_baseLen f_baseP f_rlen f_tlen f_clearAll f_svF f_svL f_hCount a_buf a_body a_sBody a_typed a_tLen a_tText a_kind a_val a_stopOf a_par a_ipos a_prim a_stack a_occ a_base a_rbuf a_tbuf a_svT a_hist := by
  have n64 := GI.2.2.2.1
  have gn := GI.2.2.1
  have hg : sn_gI g = g.1 := rfl
  subst e6
  by_cases a : (sn_chr b n (sn_gI g + 1)) = 123
  · have h' : sn_YJ post n m x4 f_cap f_hcap f_len f_caret f_sel f_bodyLen f_sBodyLen f_merge f_session f_selected f_active f_fromStruct f_baseLen f_baseP f_rlen f_tlen f_clearAll f_svF f_svL f_hCount a_buf a_body a_sBody a_typed a_tLen a_tText a_ipos a_base a_rbuf a_tbuf a_svT a_hist (if 48 ≤ (sn_chr b n (sn_gI g + 2)) ∧ (sn_chr b n (sn_gI g + 2)) ≤ 57 then sn_gBr b n (sn_dg (sn_chr b n (sn_gI g + 2))) g else none) := by
      by_cases z : 48 ≤ (sn_chr b n (sn_gI g + 2)) ∧ (sn_chr b n (sn_gI g + 2)) ≤ 57
      · rw [if_pos z]; rw [if_pos ⟨a, z⟩] at h; exact h
      · rw [if_neg z]; rw [if_neg (fun w => z w.2)] at h; exact h
    refine br_t a ?_
    refine sn_ychr (A := fun r => wY_parse_215 post (wY_parse_64 post (nI n) m) (nI n) (nI g.2.2.1) (nI g.1) x4 r f_cap f_hcap f_len f_caret f_sel f_bodyLen f_sBodyLen f_merge f_session f_selected f_active f_nItems f_finalIdx f_fromStruct f_baseLen f_baseP f_rlen f_tlen f_clearAll f_svF f_svL f_hCount a_buf a_body a_sBody a_typed a_tLen a_tText a_kind a_val a_stopOf a_par a_ipos a_prim a_stack a_occ a_base a_rbuf a_tbuf a_svT a_hist) (sn_gI g + 2) rfl (sn_ad _ 2 rfl) (by omega) n64 hb ?_
    exact sn_ychr (A := fun r => wY_parse_235 post (wY_parse_64 post (nI n) m) (nI n) (nI g.2.2.1) (nI g.1) x4 (sn_chr b n (sn_gI g + 2)) r f_cap f_hcap f_len f_caret f_sel f_bodyLen f_sBodyLen f_merge f_session f_selected f_active f_nItems f_finalIdx f_fromStruct f_baseLen f_baseP f_rlen f_tlen f_clearAll f_svF f_svL f_hCount a_buf a_body a_sBody a_typed a_tLen a_tText a_kind a_val a_stopOf a_par a_ipos a_prim a_stack a_occ a_base a_rbuf a_tbuf a_svT a_hist) (sn_gI g + 3) rfl (sn_ad _ 3 rfl) (by omega) n64 hb (sn_y235 rfl GI D hb h')
  · rw [if_neg (fun w => a w.1)] at h
    exact br_f a (h.1 rfl _ _ _ _ _ _ _ _ _)
theorem sn_y101 (hlt : sn_gI g < n) (GI : sn_GI n g) (D : sn_YD g f_nItems f_finalIdx a_kind a_val a_stopOf a_par a_prim a_stack a_occ) (hb : sn_src f_fromStruct a_body a_sBody b) (h : sn_YJ post n m x4 f_cap f_hcap f_len f_caret f_sel f_bodyLen f_sBodyLen f_merge f_session f_selected f_active f_fromStruct f_baseLen f_baseP f_rlen f_tlen f_clearAll f_svF f_svL f_hCount a_buf a_body a_sBody a_typed a_tLen a_tText a_ipos a_base a_rbuf a_tbuf a_svT a_hist (sn_gStep b n g)) : wY_parse_101 post (wY_parse_64 post (nI n) m) (nI n) (nI g.2.2.1) (nI g.1) x4 (b (sn_gI g)) (sn_chr b n (sn_gI g + 1)) f_cap f_hcap f_len f_caret f_sel f_bodyLen f_sBodyLen f_merge f_session f_selected f_active f_nItems f_finalIdx f_fromStruct f_baseLen f_baseP f_rlen f_tlen f_clearAll f_svF f_svL f_hCount a_buf a_body a_sBody a_typed a_tLen a_tText a_kind a_val a_stopOf a_par a_ipos a_prim a_stack a_occ a_base a_rbuf a_tbuf a_svT a_hist := by
  have n64 := GI.2.2.2.1
  have gn := GI.2.2.1
  have hg : sn_gI g = g.1 := rfl
  have B := sn_gsB GI
  have c65 : g.2.1 < 65 := by omega
  have en : f_nItems = nI (g.2.2.2.2.2.2.2.2.2.1 g.2.1) := D.1.1
  unfold sn_gStep at h
  by_cases b92 : b (sn_gI g) = 92
  · rw [if_pos b92] at h
    unfold sn_gEsc at h
    refine br_t b92 ?_
    have J : (sn_chr b n (sn_gI g + 1)) = 36 ∨ (sn_chr b n (sn_gI g + 1)) = 92 ∨ (sn_chr b n (sn_gI g + 1)) = 125 → wY_parse_133 post (wY_parse_64 post (nI n) m) (nI n) (nI g.2.2.1) (nI g.1) x4 (sn_chr b n (sn_gI g + 1)) f_cap f_hcap f_len f_caret f_sel f_bodyLen f_sBodyLen f_merge f_session f_selected f_active f_nItems f_finalIdx f_fromStruct f_baseLen f_baseP f_rlen f_tlen f_clearAll f_svF f_svL f_hCount a_buf a_body a_sBody a_typed a_tLen a_tText a_kind a_val a_stopOf a_par a_ipos a_prim a_stack a_occ a_base a_rbuf a_tbuf a_svT a_hist := by
      intro q
      rw [if_pos q] at h
      generalize (sn_chr b n (sn_gI g + 1)) = ch at h
      obtain ⟨i, c, d, st, K, V, S, oa, ca, sg, dp, pa⟩ := g
      obtain ⟨P, g1, g2, g3, g4⟩ := GI
      dsimp only at P g1 g2 g4 B en
      subst en
      unfold wY_parse_133
      refine sn_yadd (p := sn_yp sg oa (sn_top d st)) (sg c) d (by omega) rfl g4 (fun z => sn_ytp0 z) (fun z => sn_ysk P D.2.1 z) ?_
      intro y ey w ew
      rw [ey, sn_ad i 2 rfl]
      exact h.2 _ rfl _ _ _ _ _ _ _ _ _ (sn_YDA P D ⟨fun _ => ⟨rfl, rfl⟩, fun z => by omega, fun z => by omega, fun z => by omega⟩) w ew
    by_cases a : (sn_chr b n (sn_gI g + 1)) = 36
    · exact br_t a (J (Or.inl a))
    · refine br_f a ?_
      by_cases a2 : (sn_chr b n (sn_gI g + 1)) = 92
      · exact br_t a2 (J (Or.inr (Or.inl a2)))
      · refine br_f a2 ?_
        by_cases a3 : (sn_chr b n (sn_gI g + 1)) = 125
        · exact br_t a3 (J (Or.inr (Or.inr a3)))
        · rw [if_neg (fun q => by rcases q with q | q | q; exact a q; exact a2 q; exact a3 q)] at h
          exact br_f a3 (h.1 rfl _ _ _ _ _ _ _ _ _)
  · rw [if_neg b92] at h
    refine br_f b92 ?_
    by_cases b36 : b (sn_gI g) = 36
    · rw [if_pos b36] at h
      unfold sn_gStp at h
      refine br_t b36 ?_
      by_cases a : (sn_chr b n (sn_gI g + 1)) < 48
      · rw [if_neg (fun z => absurd a (Int32.not_lt.mpr z.1))] at h
        exact br_t a (sn_y190 rfl GI D hb h)
      · refine br_f a ?_
        by_cases a2 : 57 < (sn_chr b n (sn_gI g + 1))
        · rw [if_neg (fun z => absurd a2 (Int32.not_lt.mpr z.2))] at h
          exact br_t a2 (sn_y190 rfl GI D hb h)
        · have r1 := Int32.not_lt.mp a
          have r2 := Int32.not_lt.mp a2
          have d9 := sn_dg9 r1 r2
          rw [if_pos ⟨r1, r2⟩] at h
          refine br_f a2 ?_
          refine sn_yRef (w := 2) _ d9.2.2 rfl d9.2.1 GI D ⟨fun e ni fi ki va so pr pm sk oc => br_t rfl (h.1 e ni fi ki va so pr pm sk oc), fun g' e ni fi ki va so pr pm sk oc D' => br_f (by decide) (fun y ey z ez => ?_)⟩
          have q := sn_refD e
          rw [ey, sn_ad _ 2 rfl, ← q.2, ← q.1]
          exact h.2 g' e ni fi ki va so pr pm sk oc D' z ez
    · rw [if_neg b36] at h
      refine br_f b36 ?_
      generalize b (sn_gI g) = ch at h
      by_cases b125 : ch = 125
      · rw [if_pos b125] at h
        unfold sn_gCls at h
        refine br_t b125 ?_
        obtain ⟨i, c, d, st, K, V, S, oa, ca, sg, dp, pa⟩ := g
        obtain ⟨P, g1, g2, g3, g4⟩ := GI
        dsimp only at P g1 g2 g4 B en
        by_cases z : d = 0
        · exact br_t (by rw [z]; rfl) (h.1 (if_pos z) _ _ _ _ _ _ _ _ _)
        · refine br_f (sn_ne (a := d) z (by omega) (by omega)) (fun y ey w ew u eu => ?_)
          obtain ⟨e, rfl⟩ : ∃ e, d = e + 1 := ⟨d - 1, by omega⟩
          rw [pk_m1] at ey
          rw [ey, ew, nI_1]
          exact h.2 _ (if_neg z) _ _ _ _ _ _ _ _ _ (sn_YDC P (by omega) D) u eu
      · rw [if_neg b125] at h
        refine br_f b125 ?_
        obtain ⟨i, c, d, st, K, V, S, oa, ca, sg, dp, pa⟩ := g
        obtain ⟨P, g1, g2, g3, g4⟩ := GI
        dsimp only at P g1 g2 g4 B en
        subst en
        refine sn_yadd (p := sn_yp sg oa (sn_top d st)) (sg c) d (by omega) rfl g4 (fun z => sn_ytp0 z) (fun z => sn_ysk P D.2.1 z) ?_
        intro y ey w ew
        rw [ey, nI_1]
        exact h.2 _ rfl _ _ _ _ _ _ _ _ _ (sn_YDA P D ⟨fun _ => ⟨rfl, rfl⟩, fun z => by omega, fun z => by omega, fun z => by omega⟩) w ew
def sn_YZ (post : Int32 → SY → Prop) (f_cap f_hcap f_len f_caret f_sel f_bodyLen f_sBodyLen f_merge f_session f_selected f_active f_fromStruct f_baseLen f_baseP f_rlen f_tlen f_clearAll f_svF f_svL f_hCount : Int32) (a_buf a_body a_sBody a_typed a_tLen a_tText a_ipos a_base a_rbuf a_tbuf a_svT a_hist : Nat → Int32) (r : Option sn_G) : Prop :=
  (r = none → ∀ (ni fi : Int32) (ki va so pr pm sk oc : Nat → Int32), post 0 (f_cap, f_hcap, f_len, f_caret, f_sel, f_bodyLen, f_sBodyLen, f_merge, f_session, f_selected, f_active, ni, fi, f_fromStruct, f_baseLen, f_baseP, f_rlen, f_tlen, f_clearAll, f_svF, f_svL, f_hCount, a_buf, a_body, a_sBody, a_typed, a_tLen, a_tText, ki, va, so, pr, a_ipos, pm, sk, oc, a_base, a_rbuf, a_tbuf, a_svT, a_hist)) ∧
  (∀ g : sn_G, r = some g → ∀ (ni fi : Int32) (ki va so pr pm sk oc : Nat → Int32), sn_YS g.2.1 g.2.2.2.2.1 g.2.2.2.2.2.1 g.2.2.2.2.2.2.1 g.2.2.2.2.2.2.2.1 g.2.2.2.2.2.2.2.2.2.1 g.2.2.2.2.2.2.2.2.2.2.2 ni fi ki va so pr pm → post 1 (f_cap, f_hcap, f_len, f_caret, f_sel, f_bodyLen, f_sBodyLen, f_merge, f_session, f_selected, f_active, ni, fi, f_fromStruct, f_baseLen, f_baseP, f_rlen, f_tlen, f_clearAll, f_svF, f_svL, f_hCount, a_buf, a_body, a_sBody, a_typed, a_tLen, a_tText, ki, va, so, pr, a_ipos, pm, sk, oc, a_base, a_rbuf, a_tbuf, a_svT, a_hist))
theorem sn_y542 (GI : sn_GI n g) (D : sn_YD g f_nItems f_finalIdx a_kind a_val a_stopOf a_par a_prim a_stack a_occ) (h : sn_YZ post f_cap f_hcap f_len f_caret f_sel f_bodyLen f_sBodyLen f_merge f_session f_selected f_active f_fromStruct f_baseLen f_baseP f_rlen f_tlen f_clearAll f_svF f_svL f_hCount a_buf a_body a_sBody a_typed a_tLen a_tText a_ipos a_base a_rbuf a_tbuf a_svT a_hist (sn_end g)) : wY_parse_542 post (nI g.2.2.1) f_cap f_hcap f_len f_caret f_sel f_bodyLen f_sBodyLen f_merge f_session f_selected f_active f_nItems f_finalIdx f_fromStruct f_baseLen f_baseP f_rlen f_tlen f_clearAll f_svF f_svL f_hCount a_buf a_body a_sBody a_typed a_tLen a_tText a_kind a_val a_stopOf a_par a_ipos a_prim a_stack a_occ a_base a_rbuf a_tbuf a_svT a_hist := by
  have B := sn_gsB GI
  unfold sn_end at h
  obtain ⟨i, c, d, st, K, V, S, oa, ca, sg, dp, pa⟩ := g
  obtain ⟨P, g1, g2, g3, g4⟩ := GI
  dsimp only at P g1 g2 g4 B
  have h0 := P.1
  have oc := sn_oac P.2.2.2.1 0
  have en : f_nItems = nI (sg c) := D.1.1
  have ef : f_finalIdx = if oa 0 = 1000 then -1 else nI (sg (oa 0)) := D.1.2.2.2
  subst en
  by_cases z : 0 < d
  · exact br_f (nI_nle (n := d) z (by omega)) (h.1 (if_pos z) _ _ _ _ _ _ _ _ _)
  · have d0 : d = 0 := by omega
    subst d0
    rw [if_neg (show ¬ 0 < sn_gd (i, c, 0, st, K, V, S, oa, ca, sg, dp, pa) from z)] at h
    refine br_t (by show (0 : Int32) ≤ 0; decide) ?_
    by_cases y : oa 0 = 1000
    · rw [if_pos (show sn_go (i, c, 0, st, K, V, S, oa, ca, sg, dp, pa) 0 = 1000 from y)] at h
      rw [if_pos y] at ef
      refine br_f (by rw [ef]; decide) ?_
      refine sn_yadd (p := sn_yp sg oa (sn_top 0 st)) (sg c) 0 (by omega) rfl (by omega) (fun _ => sn_ytp0 rfl) (fun z => absurd z (by omega)) ?_
      exact h.2 _ rfl _ _ _ _ _ _ _ _ _ (sn_YDF (w := 0) (kk := 4) (vv := 0) P D rfl).1
    · rw [if_neg (show ¬ sn_go (i, c, 0, st, K, V, S, oa, ca, sg, dp, pa) 0 = 1000 from y)] at h
      rw [if_neg y] at ef
      have so := sn_sgx P.2.1 (show oa 0 ≤ c by omega)
      exact br_t (by rw [ef]; exact nI_pos' (by omega)) (h.2 _ rfl _ _ _ _ _ _ _ _ _ D.1)
theorem sn_y64 (hb : sn_src f_fromStruct a_body a_sBody b) : ∀ (k m s : Nat) (g : sn_G), s + k = 64 → k < m → sn_GI n g → ∀ (f_nItems f_finalIdx : Int32) (a_kind a_val a_stopOf a_par a_prim a_stack a_occ : Nat → Int32), sn_YD g f_nItems f_finalIdx a_kind a_val a_stopOf a_par a_prim a_stack a_occ →
    sn_YZ post f_cap f_hcap f_len f_caret f_sel f_bodyLen f_sBodyLen f_merge f_session f_selected f_active f_fromStruct f_baseLen f_baseP f_rlen f_tlen f_clearAll f_svF f_svL f_hCount a_buf a_body a_sBody a_typed a_tLen a_tText a_ipos a_base a_rbuf a_tbuf a_svT a_hist ((sn_run b n k g).bind sn_end) → wY_parse_64 post (nI n) m (nI g.2.2.1) (nI g.1) (nI s) f_cap f_hcap f_len f_caret f_sel f_bodyLen f_sBodyLen f_merge f_session f_selected f_active f_nItems f_finalIdx f_fromStruct f_baseLen f_baseP f_rlen f_tlen f_clearAll f_svF f_svL f_hCount a_buf a_body a_sBody a_typed a_tLen a_tText a_kind a_val a_stopOf a_par a_ipos a_prim a_stack a_occ a_base a_rbuf a_tbuf a_svT a_hist := by
  intro k
  induction k with
  | zero =>
    intro m s g hs hm GI f_nItems f_finalIdx a_kind a_val a_stopOf a_par a_prim a_stack a_occ D h
    obtain ⟨m, rfl⟩ : ∃ j, m = j + 1 := ⟨m - 1, by omega⟩
    obtain rfl : s = 64 := by omega
    exact br_t (by decide) (sn_y542 GI D h)
  | succ k ih =>
    intro m s g hs hm GI f_nItems f_finalIdx a_kind a_val a_stopOf a_par a_prim a_stack a_occ D h
    obtain ⟨m, rfl⟩ : ∃ j, m = j + 1 := ⟨m - 1, by omega⟩
    have n64 := GI.2.2.2.1
    have hg : sn_gI g = g.1 := rfl
    have gn : g.1 ≤ n := GI.2.2.1
    rw [sn_run] at h
    refine br_f (nI_ge (a := s) (b := 64) (by omega) (by omega)) ?_
    by_cases z : sn_gI g < n
    · rw [if_pos z] at h
      refine br_f (nI_ge (by omega) (by omega)) ?_
      refine sn_ysrc (sn_gI g) rfl (by omega) hb ?_
      refine sn_ychr (A := fun r => wY_parse_101 post (wY_parse_64 post (nI n) m) (nI n) (nI g.2.2.1) (nI g.1) (nI s) (b (sn_gI g)) r f_cap f_hcap f_len f_caret f_sel f_bodyLen f_sBodyLen f_merge f_session f_selected f_active f_nItems f_finalIdx f_fromStruct f_baseLen f_baseP f_rlen f_tlen f_clearAll f_svF f_svL f_hCount a_buf a_body a_sBody a_typed a_tLen a_tText a_kind a_val a_stopOf a_par a_ipos a_prim a_stack a_occ a_base a_rbuf a_tbuf a_svT a_hist) (sn_gI g + 1) rfl (nI_1 _) (by omega) n64 hb ?_
      refine sn_y101 z GI D hb ⟨fun e ni fi ki va so pr pm sk oc => ?_, fun g' e ni fi ki va so pr pm sk oc D' y ey => ?_⟩
      · exact h.1 (by rw [e]; rfl) ni fi ki va so pr pm sk oc
      · rw [ey, nI_1]
        refine ih m (s + 1) g' (by omega) (by omega) (sn_stepI GI z e) ni fi ki va so pr pm sk oc D' ?_
        rw [e] at h
        exact h
    · rw [if_neg z] at h
      exact br_t (nI_le (by omega) (by omega)) (sn_y542 GI D h)
theorem sn_ypar (hb : sn_src f_fromStruct a_body a_sBody b) (hn : n ≤ 64) (en : (f_fromStruct = 0 → f_bodyLen = nI n) ∧ (¬ f_fromStruct = 0 → f_sBodyLen = nI n)) (h : sn_YZ post f_cap f_hcap f_len f_caret f_sel f_bodyLen f_sBodyLen f_merge f_session f_selected f_active f_fromStruct f_baseLen f_baseP f_rlen f_tlen f_clearAll f_svF f_svL f_hCount a_buf a_body a_sBody a_typed a_tLen a_tText a_ipos a_base a_rbuf a_tbuf a_svT a_hist (sn_pp b n)) : wpY_parse post (f_cap, f_hcap, f_len, f_caret, f_sel, f_bodyLen, f_sBodyLen, f_merge, f_session, f_selected, f_active, f_nItems, f_finalIdx, f_fromStruct, f_baseLen, f_baseP, f_rlen, f_tlen, f_clearAll, f_svF, f_svL, f_hCount, a_buf, a_body, a_sBody, a_typed, a_tLen, a_tText, a_kind, a_val, a_stopOf, a_par, a_ipos, a_prim, a_stack, a_occ, a_base, a_rbuf, a_tbuf, a_svT, a_hist) := by
  have main : ∀ z : Int32, z = nI n → wY_parse_18 post z f_cap f_hcap f_len f_caret f_sel f_bodyLen f_sBodyLen f_merge f_session f_selected f_active f_nItems f_finalIdx f_fromStruct f_baseLen f_baseP f_rlen f_tlen f_clearAll f_svF f_svL f_hCount a_buf a_body a_sBody a_typed a_tLen a_tText a_kind a_val a_stopOf a_par a_ipos a_prim a_stack a_occ a_base a_rbuf a_tbuf a_svT a_hist := by
    intro z ez
    subst ez
    have go : ∀ j i k (pm oc : Nat → Int32), i + j = 10 → j < k → (∀ s, s < i → pm s = -1) → (∀ s, s < i → oc s = 0) → wY_parse_33 post (nI n) 0 f_cap f_hcap f_len f_caret f_sel f_bodyLen f_sBodyLen f_merge f_session f_selected f_active 0 ((-1)) f_fromStruct f_baseLen f_baseP f_rlen f_tlen f_clearAll f_svF f_svL f_hCount k (nI i) a_buf a_body a_sBody a_typed a_tLen a_tText a_kind a_val a_stopOf a_par a_ipos pm a_stack oc a_base a_rbuf a_tbuf a_svT a_hist := by
      intro j
      induction j with
      | zero =>
        intro i k pm oc hi hk h1 h2
        obtain ⟨k, rfl⟩ : ∃ q, k = q + 1 := ⟨k - 1, by omega⟩
        obtain rfl : i = 10 := by omega
        refine br_t (by decide) ⟨65, ?_⟩
        refine sn_y64 hb 64 65 0 sn_g0 (by omega) (by omega) (sn_GI0 hn) _ _ _ _ _ _ _ _ _ ⟨⟨rfl, fun x hx => absurd hx (Nat.not_lt_zero _), fun s _ hs => ?_, rfl⟩, fun k hk => absurd hk (Nat.not_lt_zero _), fun s hs => ?_⟩ h
        · rw [h1 s (by omega)]; rfl
        · rw [h2 s (by omega)]; rfl
      | succ j ih =>
        intro i k pm oc hi hk h1 h2
        obtain ⟨k, rfl⟩ : ∃ q, k = q + 1 := ⟨k - 1, by omega⟩
        refine br_f (nI_ge (a := i) (b := 10) (by omega) (by omega)) ⟨vp_in_nI (by omega) (by omega), fun y ey => ⟨vp_in_nI (by omega) (by omega), fun z ez u eu => ?_⟩⟩
        rw [nI_clamp (by omega)] at ey ez
        rw [sn_nar0] at ey
        rw [nI_1] at eu
        subst ey ez eu
        refine ih (i + 1) k _ _ (by omega) (by omega) (fun s hs => ?_) (fun s hs => ?_)
        · by_cases e : s = i
          · rw [e, pk_us]
          · rw [pk_un e]; exact h1 s (by omega)
        · by_cases e : s = i
          · rw [e, pk_us]
          · rw [pk_un e]; exact h2 s (by omega)
    exact ⟨11, go 10 0 11 _ _ (by omega) (by omega) (fun s hs => absurd hs (by omega)) (fun s hs => absurd hs (by omega))⟩
  by_cases z : f_fromStruct = 0
  · exact br_t z (main _ (en.1 z))
  · exact br_f z (main _ (en.2 z))
end SNW
end
section
section SNZ
/-! Y: the rest -/
variable {f_cap f_hcap f_len f_caret f_sel f_bodyLen f_sBodyLen f_merge f_session f_selected f_active f_nItems f_finalIdx f_fromStruct f_baseLen f_baseP f_rlen f_tlen f_clearAll f_svF f_svL f_hCount : Int32} {a_buf a_body a_sBody a_typed a_tLen a_tText a_kind a_val a_stopOf a_par a_ipos a_prim a_stack a_occ a_base a_rbuf a_tbuf a_svT a_hist : Nat → Int32}
variable {post : Int32 → SY → Prop}
theorem sn_ytac (x : Int32) (k l : Nat) (hk : k ≤ l) (hl : l < 64) (h : post 0 (f_cap, f_hcap, nI (l + 1), nI (k + 1), nI (k + 1), f_bodyLen, f_sBodyLen, 1, f_session, f_selected, f_active, f_nItems, f_finalIdx, f_fromStruct, f_baseLen, f_baseP, f_rlen, f_tlen, f_clearAll, f_svF, f_svL, f_hCount, upd (sn_sh a_buf k l) k x, a_body, a_sBody, a_typed, a_tLen, a_tText, a_kind, a_val, a_stopOf, a_par, a_ipos, a_prim, a_stack, a_occ, a_base, a_rbuf, a_tbuf, a_svT, a_hist)) :
    ∃ n, wY_typeChar_52 post x f_cap f_hcap (nI l) (nI k) f_sel f_bodyLen f_sBodyLen f_merge f_session f_selected f_active f_nItems f_finalIdx f_fromStruct f_baseLen f_baseP f_rlen f_tlen f_clearAll f_svF f_svL f_hCount n (nI l) a_buf a_body a_sBody a_typed a_tLen a_tText a_kind a_val a_stopOf a_par a_ipos a_prim a_stack a_occ a_base a_rbuf a_tbuf a_svT a_hist := by
  have go : ∀ m i n, k + m = i → i ≤ l → m < n → wY_typeChar_52 post x f_cap f_hcap (nI l) (nI k) f_sel f_bodyLen f_sBodyLen f_merge f_session f_selected f_active f_nItems f_finalIdx f_fromStruct f_baseLen f_baseP f_rlen f_tlen f_clearAll f_svF f_svL f_hCount n (nI i) (sn_sh a_buf i l) a_body a_sBody a_typed a_tLen a_tText a_kind a_val a_stopOf a_par a_ipos a_prim a_stack a_occ a_base a_rbuf a_tbuf a_svT a_hist := by
    intro m
    induction m with
    | zero =>
      intro i n hi hil hn
      obtain ⟨n, rfl⟩ : ∃ k, n = k + 1 := ⟨n - 1, by omega⟩
      obtain rfl : i = k := by omega
      refine br_t (nI_le (Nat.le_refl _) (by omega)) ⟨vp_in_nI (by omega) (by omega), fun y ey z ez w ew => ?_⟩
      rw [nI_clamp (by omega)] at ey
      rw [nI_1] at ez ew
      subst ey ez ew
      exact h
    | succ m ih =>
      intro i n hi hil hn
      obtain ⟨n, rfl⟩ : ∃ k, n = k + 1 := ⟨n - 1, by omega⟩
      obtain ⟨j, rfl⟩ : ∃ j, i = j + 1 := ⟨i - 1, by omega⟩
      refine br_f (nI_ge (by omega) (by omega)) (br_f (nI_ge (a := j + 1) (b := 64) (by omega) (by omega)) ?_)
      rw [nI_pred]
      refine ⟨vp_in_nI (by omega) (by omega), vp_in_nI (by omega) (by omega), fun y ey z ez => ?_⟩
      rw [nI_clamp (by omega), nI_clamp (by omega), sn_shS _ _ _ hil] at ey
      rw [ey, ez, pk_m1]
      exact ih j n (by omega) (by omega) (by omega)
  have w := go (l - k) l (l - k + 1) (by omega) (Nat.le_refl _) (by omega)
  rw [sn_sh0] at w
  exact ⟨_, w⟩
theorem sn_ybac (k l : Nat) (h1 : 1 ≤ k) (hk : k ≤ l) (hl : l ≤ 64) (h : post 0 (f_cap, f_hcap, nI (l - 1), nI (k - 1), nI (k - 1), f_bodyLen, f_sBodyLen, 0, f_session, f_selected, f_active, f_nItems, f_finalIdx, f_fromStruct, f_baseLen, f_baseP, f_rlen, f_tlen, f_clearAll, f_svF, f_svL, f_hCount, sn_cp a_buf k a_buf (k - 1) (l - k), a_body, a_sBody, a_typed, a_tLen, a_tText, a_kind, a_val, a_stopOf, a_par, a_ipos, a_prim, a_stack, a_occ, a_base, a_rbuf, a_tbuf, a_svT, a_hist)) :
    ∃ n, wY_backspace_28 post f_cap f_hcap (nI l) (nI k) f_sel f_bodyLen f_sBodyLen f_merge f_session f_selected f_active f_nItems f_finalIdx f_fromStruct f_baseLen f_baseP f_rlen f_tlen f_clearAll f_svF f_svL f_hCount n (nI (k - 1)) a_buf a_body a_sBody a_typed a_tLen a_tText a_kind a_val a_stopOf a_par a_ipos a_prim a_stack a_occ a_base a_rbuf a_tbuf a_svT a_hist := by
  have el : nI l - 1 = nI (l - 1) := sn_sb l 1 (by omega) rfl
  have ek : nI k - 1 = nI (k - 1) := sn_sb k 1 (by omega) rfl
  have go : ∀ m i n, i + m = l - k → m < n → wY_backspace_28 post f_cap f_hcap (nI l) (nI k) f_sel f_bodyLen f_sBodyLen f_merge f_session f_selected f_active f_nItems f_finalIdx f_fromStruct f_baseLen f_baseP f_rlen f_tlen f_clearAll f_svF f_svL f_hCount n (nI (k - 1 + i)) (sn_cp a_buf k a_buf (k - 1) i) a_body a_sBody a_typed a_tLen a_tText a_kind a_val a_stopOf a_par a_ipos a_prim a_stack a_occ a_base a_rbuf a_tbuf a_svT a_hist := by
    intro m
    induction m with
    | zero =>
      intro i n hi hn
      obtain ⟨n, rfl⟩ : ∃ k, n = k + 1 := ⟨n - 1, by omega⟩
      obtain rfl : i = l - k := by omega
      refine br_t (by rw [el]; exact nI_le (by omega) (by omega)) (fun y ey z ez => ?_)
      rw [el] at ey
      rw [ek] at ez
      subst ey ez
      exact h
    | succ m ih =>
      intro i n hi hn
      obtain ⟨n, rfl⟩ : ∃ k, n = k + 1 := ⟨n - 1, by omega⟩
      refine br_f (by rw [el]; exact nI_ge (by omega) (by omega)) (br_f (nI_ge (a := k - 1 + i) (b := 63) (by omega) (by omega)) ?_)
      rw [nI_1]
      refine ⟨vp_in_nI (by omega) (by omega), vp_in_nI (by omega) (by omega), fun y ey z ez => ?_⟩
      rw [nI_clamp (by omega), nI_clamp (by omega), sn_cpO (by omega), show k - 1 + i + 1 = k + i by omega, sn_cpS] at ey
      rw [ey, ez]
      exact ih (i + 1) n (by omega) (by omega)
  have w := go (l - k) 0 (l - k + 1) (by omega) (by omega)
  rw [sn_cp0] at w
  exact ⟨_, w⟩
theorem sn_yex (n l : Nat) (hn : n ≤ 64) (hl : l ≤ 64)
    (h : ∀ ty tl : Nat → Int32, (∀ s, s ≤ 9 → ty s = 0) → (∀ s, s ≤ 9 → tl s = 0) → wY_expand_184 post f_cap f_hcap (nI l) f_caret f_sel (nI n) (nI n) f_merge f_session f_selected f_active f_nItems f_finalIdx f_fromStruct f_baseLen f_baseP f_rlen f_tlen f_clearAll f_svF f_svL f_hCount a_buf a_body (sn_cp a_body 0 a_sBody 0 n) ty tl a_tText a_kind a_val a_stopOf a_par a_ipos a_prim a_stack a_occ (sn_cp a_buf 0 a_base 0 l) a_rbuf a_tbuf a_svT a_hist) :
    ∃ m, wY_expand_88 post f_cap f_hcap (nI l) f_caret f_sel (nI n) f_sBodyLen f_merge f_session f_selected f_active f_nItems f_finalIdx f_fromStruct f_baseLen f_baseP f_rlen f_tlen f_clearAll f_svF f_svL f_hCount m 0 a_buf a_body a_sBody a_typed a_tLen a_tText a_kind a_val a_stopOf a_par a_ipos a_prim a_stack a_occ a_base a_rbuf a_tbuf a_svT a_hist := by
  have L152 : ∀ ty tl : Nat → Int32, (∀ s, s ≤ 9 → ty s = 0) → (∀ s, s ≤ 9 → tl s = 0) → ∃ m, wY_expand_152 post f_cap f_hcap (nI l) f_caret f_sel (nI n) (nI n) f_merge f_session f_selected f_active f_nItems f_finalIdx f_fromStruct f_baseLen f_baseP f_rlen f_tlen f_clearAll f_svF f_svL f_hCount m 0 a_buf a_body (sn_cp a_body 0 a_sBody 0 n) ty tl a_tText a_kind a_val a_stopOf a_par a_ipos a_prim a_stack a_occ a_base a_rbuf a_tbuf a_svT a_hist := by
    intro ty tl h1 h2
    have go : ∀ m k q, k + m = l → m < q → wY_expand_152 post f_cap f_hcap (nI l) f_caret f_sel (nI n) (nI n) f_merge f_session f_selected f_active f_nItems f_finalIdx f_fromStruct f_baseLen f_baseP f_rlen f_tlen f_clearAll f_svF f_svL f_hCount q (nI k) a_buf a_body (sn_cp a_body 0 a_sBody 0 n) ty tl a_tText a_kind a_val a_stopOf a_par a_ipos a_prim a_stack a_occ (sn_cp a_buf 0 a_base 0 k) a_rbuf a_tbuf a_svT a_hist := by
      intro m
      induction m with
      | zero =>
        intro k q hi hq
        obtain ⟨q, rfl⟩ : ∃ k, q = k + 1 := ⟨q - 1, by omega⟩
        obtain rfl : k = l := by omega
        exact br_t (nI_le (Nat.le_refl _) (by omega)) (h ty tl h1 h2)
      | succ m ih =>
        intro k q hi hq
        obtain ⟨q, rfl⟩ : ∃ k, q = k + 1 := ⟨q - 1, by omega⟩
        refine br_f (nI_ge (by omega) (by omega)) (br_f (nI_ge (a := k) (b := 64) (by omega) (by omega)) ⟨vp_in_nI (by omega) (by omega), vp_in_nI (by omega) (by omega), fun y ey z ez => ?_⟩)
        have w := sn_cpS a_buf 0 a_base 0 k
        rw [Nat.zero_add] at w
        rw [nI_clamp (by omega), w] at ey
        rw [ey, ez, nI_1]
        exact ih (k + 1) q (by omega) (by omega)
    have w := go l 0 (l + 1) (by omega) (by omega)
    rw [sn_cp0] at w
    exact ⟨_, w⟩
  have L124 : ∃ m, wY_expand_124 post f_cap f_hcap (nI l) f_caret f_sel (nI n) (nI n) f_merge f_session f_selected f_active f_nItems f_finalIdx f_fromStruct f_baseLen f_baseP f_rlen f_tlen f_clearAll f_svF f_svL f_hCount m 0 a_buf a_body (sn_cp a_body 0 a_sBody 0 n) a_typed a_tLen a_tText a_kind a_val a_stopOf a_par a_ipos a_prim a_stack a_occ a_base a_rbuf a_tbuf a_svT a_hist := by
    have go : ∀ m k q (ty tl : Nat → Int32), k + m = 10 → m < q → (∀ s, s < k → ty s = 0) → (∀ s, s < k → tl s = 0) → wY_expand_124 post f_cap f_hcap (nI l) f_caret f_sel (nI n) (nI n) f_merge f_session f_selected f_active f_nItems f_finalIdx f_fromStruct f_baseLen f_baseP f_rlen f_tlen f_clearAll f_svF f_svL f_hCount q (nI k) a_buf a_body (sn_cp a_body 0 a_sBody 0 n) ty tl a_tText a_kind a_val a_stopOf a_par a_ipos a_prim a_stack a_occ a_base a_rbuf a_tbuf a_svT a_hist := by
      intro m
      induction m with
      | zero =>
        intro k q ty tl hi hq h1 h2
        obtain ⟨q, rfl⟩ : ∃ k, q = k + 1 := ⟨q - 1, by omega⟩
        obtain rfl : k = 10 := by omega
        exact br_t (by decide) (L152 ty tl (fun s hs => h1 s (by omega)) (fun s hs => h2 s (by omega)))
      | succ m ih =>
        intro k q ty tl hi hq h1 h2
        obtain ⟨q, rfl⟩ : ∃ k, q = k + 1 := ⟨q - 1, by omega⟩
        refine br_f (nI_ge (a := k) (b := 10) (by omega) (by omega)) ⟨vp_in_nI (by omega) (by omega), fun y ey => ⟨vp_in_nI (by omega) (by omega), fun z ez u eu => ?_⟩⟩
        rw [nI_clamp (by omega)] at ey ez
        rw [sn_nar0] at ey
        rw [nI_1] at eu
        subst ey ez eu
        refine ih (k + 1) q _ _ (by omega) (by omega) (fun s hs => ?_) (fun s hs => ?_)
        · by_cases e : s = k
          · rw [e, pk_us]
          · rw [pk_un e]; exact h1 s (by omega)
        · by_cases e : s = k
          · rw [e, pk_us]
          · rw [pk_un e]; exact h2 s (by omega)
    exact ⟨_, go 10 0 11 _ _ (by omega) (by omega) (fun s hs => absurd hs (by omega)) (fun s hs => absurd hs (by omega))⟩
  have go : ∀ m k q, k + m = n → m < q → wY_expand_88 post f_cap f_hcap (nI l) f_caret f_sel (nI n) f_sBodyLen f_merge f_session f_selected f_active f_nItems f_finalIdx f_fromStruct f_baseLen f_baseP f_rlen f_tlen f_clearAll f_svF f_svL f_hCount q (nI k) a_buf a_body (sn_cp a_body 0 a_sBody 0 k) a_typed a_tLen a_tText a_kind a_val a_stopOf a_par a_ipos a_prim a_stack a_occ a_base a_rbuf a_tbuf a_svT a_hist := by
    intro m
    induction m with
    | zero =>
      intro k q hi hq
      obtain ⟨q, rfl⟩ : ∃ k, q = k + 1 := ⟨q - 1, by omega⟩
      obtain rfl : k = n := by omega
      exact br_t (nI_le (Nat.le_refl _) (by omega)) L124
    | succ m ih =>
      intro k q hi hq
      obtain ⟨q, rfl⟩ : ∃ k, q = k + 1 := ⟨q - 1, by omega⟩
      refine br_f (nI_ge (by omega) (by omega)) ⟨vp_in_nI (by omega) (by omega), vp_in_nI (by omega) (by omega), fun y ey z ez => ?_⟩
      have w := sn_cpS a_body 0 a_sBody 0 k
      rw [Nat.zero_add] at w
      rw [nI_clamp (by omega), w] at ey
      rw [ey, ez, nI_1]
      exact ih (k + 1) q (by omega) (by omega)
  have w := go n 0 (n + 1) (by omega) (by omega)
  rw [sn_cp0] at w
  exact ⟨_, w⟩
end SNZ
end
section
section SNX
/-! the relation -/
def sn_GG (sb : Nat) (b_sBody : Nat → Int32) (i c d : Nat) (st K : Nat → Nat) (V : Nat → Int32) (S oa ca sg dp pa : Nat → Nat) (f_itemCount y_nItems y_finalIdx : Int32) (a_itemKind a_itemValue a_openAt a_closeAt b_kind b_val b_stopOf b_par b_prim : Nat → Int32) : Prop :=
  sn_pp b_sBody sb = some (i, c, d, st, K, V, S, oa, ca, sg, dp, pa) ∧ f_itemCount = nI c ∧ sn_XS c K V oa ca a_itemKind a_itemValue a_openAt a_closeAt ∧ sn_YS c K V S oa sg pa y_nItems y_finalIdx b_kind b_val b_stopOf b_par b_prim
def sn_RF (cap hc dep n sb bl bp i c d : Nat) (st K : Nat → Nat) (V : Nat → Int32) (S oa ca sg dp pa : Nat → Nat) (f_length f_caret f_activeStop f_selected y_session y_selected f_itemCount y_nItems y_finalIdx : Int32) (a_typedLength b_typed b_tLen b_sBody a_itemKind a_itemValue a_openAt a_closeAt b_kind b_val b_stopOf b_par b_prim a_history b_hist : Nat → Int32) : Prop :=
  (8 ≤ cap ∧ cap ≤ 64 ∧ 1 ≤ hc ∧ hc ≤ 16 ∧ dep ≤ hc ∧ n ≤ 64 ∧ sb ≤ 64 ∧ bp ≤ bl ∧ bl ≤ 64) ∧ (∀ s, s ≤ 9 → sn_TL (a_typedLength s) (b_typed s) (b_tLen s)) ∧
  sn_SQ (sn_GG sb b_sBody i c d st K V S oa ca sg dp pa f_itemCount y_nItems y_finalIdx a_itemKind a_itemValue a_openAt a_closeAt b_kind b_val b_stopOf b_par b_prim) c K V S oa ca cap bl f_length f_caret f_activeStop f_selected y_session y_selected a_typedLength ∧
  (∀ h, h < dep → sn_HS (sn_GG sb b_sBody i c d st K V S oa ca sg dp pa f_itemCount y_nItems y_finalIdx a_itemKind a_itemValue a_openAt a_closeAt b_kind b_val b_stopOf b_par b_prim) c K V S oa ca cap bl a_history b_hist h)
def i_Rel (_ : Nat) (u : SX) (v : SY) : Prop := ∃ (cap hc dep n sb bl bp i c d : Nat) (st K : Nat → Nat) (V : Nat → Int32) (S oa ca sg dp pa : Nat → Nat) (f_length f_caret f_selStart f_merge f_itemCount f_activeStop f_selected f_draftCount f_depth f_readAt y_session y_selected y_nItems y_finalIdx y_fromStruct y_rlen y_tlen y_svF y_svL : Int32) (a_text a_body a_history a_itemKind a_itemValue a_openAt a_closeAt a_base a_typedLength a_typedText a_draftKind a_draftValue a_draftOpenAt a_draftCloseAt a_enclosing a_trialLength b_sBody b_typed b_tLen b_kind b_val b_stopOf b_par b_ipos b_prim b_stack b_occ b_rbuf b_tbuf b_svT b_hist : Nat → Int32), u = (nI cap, nI hc, f_length, f_caret, f_selStart, nI n, nI dep, f_merge, f_itemCount, nI bl, nI bp, f_activeStop, f_selected, f_draftCount, f_depth, f_readAt, a_text, a_body, a_history, a_itemKind, a_itemValue, a_openAt, a_closeAt, a_base, a_typedLength, a_typedText, a_draftKind, a_draftValue, a_draftOpenAt, a_draftCloseAt, a_enclosing, a_trialLength) ∧ v = (nI cap, nI hc, f_length, f_caret, f_selStart, nI n, nI sb, f_merge, y_session, y_selected, f_activeStop, y_nItems, y_finalIdx, y_fromStruct, nI bl, nI bp, y_rlen, y_tlen, 0, y_svF, y_svL, nI dep, a_text, a_body, b_sBody, b_typed, b_tLen, a_typedText, b_kind, b_val, b_stopOf, b_par, b_ipos, b_prim, b_stack, b_occ, a_base, b_rbuf, b_tbuf, b_svT, b_hist) ∧ sn_RF cap hc dep n sb bl bp i c d st K V S oa ca sg dp pa f_length f_caret f_activeStop f_selected y_session y_selected f_itemCount y_nItems y_finalIdx a_typedLength b_typed b_tLen b_sBody a_itemKind a_itemValue a_openAt a_closeAt b_kind b_val b_stopOf b_par b_prim a_history b_hist
variable {cap hc dep n sb bl bp i c d : Nat} {st K : Nat → Nat} {V : Nat → Int32} {S oa ca sg dp pa : Nat → Nat} {f_length f_caret f_selStart f_merge f_itemCount f_activeStop f_selected f_draftCount f_depth f_readAt y_session y_selected y_nItems y_finalIdx y_fromStruct y_rlen y_tlen y_svF y_svL : Int32} {a_text a_body a_history a_itemKind a_itemValue a_openAt a_closeAt a_base a_typedLength a_typedText a_draftKind a_draftValue a_draftOpenAt a_draftCloseAt a_enclosing a_trialLength b_sBody b_typed b_tLen b_kind b_val b_stopOf b_par b_ipos b_prim b_stack b_occ b_rbuf b_tbuf b_svT b_hist : Nat → Int32}
theorem sn_mk {k : Nat} (h : sn_RF cap hc dep n sb bl bp i c d st K V S oa ca sg dp pa f_length f_caret f_activeStop f_selected y_session y_selected f_itemCount y_nItems y_finalIdx a_typedLength b_typed b_tLen b_sBody a_itemKind a_itemValue a_openAt a_closeAt b_kind b_val b_stopOf b_par b_prim a_history b_hist) : i_Rel k (nI cap, nI hc, f_length, f_caret, f_selStart, nI n, nI dep, f_merge, f_itemCount, nI bl, nI bp, f_activeStop, f_selected, f_draftCount, f_depth, f_readAt, a_text, a_body, a_history, a_itemKind, a_itemValue, a_openAt, a_closeAt, a_base, a_typedLength, a_typedText, a_draftKind, a_draftValue, a_draftOpenAt, a_draftCloseAt, a_enclosing, a_trialLength) (nI cap, nI hc, f_length, f_caret, f_selStart, nI n, nI sb, f_merge, y_session, y_selected, f_activeStop, y_nItems, y_finalIdx, y_fromStruct, nI bl, nI bp, y_rlen, y_tlen, 0, y_svF, y_svL, nI dep, a_text, a_body, b_sBody, b_typed, b_tLen, a_typedText, b_kind, b_val, b_stopOf, b_par, b_ipos, b_prim, b_stack, b_occ, a_base, b_rbuf, b_tbuf, b_svT, b_hist) :=
  ⟨cap, hc, dep, n, sb, bl, bp, i, c, d, st, K, V, S, oa, ca, sg, dp, pa, f_length, f_caret, f_selStart, f_merge, f_itemCount, f_activeStop, f_selected, f_draftCount, f_depth, f_readAt, y_session, y_selected, y_nItems, y_finalIdx, y_fromStruct, y_rlen, y_tlen, y_svF, y_svL, a_text, a_body, a_history, a_itemKind, a_itemValue, a_openAt, a_closeAt, a_base, a_typedLength, a_typedText, a_draftKind, a_draftValue, a_draftOpenAt, a_draftCloseAt, a_enclosing, a_trialLength, b_sBody, b_typed, b_tLen, b_kind, b_val, b_stopOf, b_par, b_ipos, b_prim, b_stack, b_occ, b_rbuf, b_tbuf, b_svT, b_hist, rfl, rfl, h⟩
theorem i_up {k : Nat} {u : SX} {v : SY} (h : i_Rel k u v) : i_Rel (k + 3) u v := h
theorem sn_TLy {L ty tl : Nat → Int32} (h : ∀ s, s ≤ 9 → sn_TL (L s) (ty s) (tl s)) : sn_YT 0 ty tl L := by
  intro s hs
  rcases h s hs with ⟨a, b, c⟩ | ⟨m, hm, a, b, c⟩
  · exact Or.inl ⟨a, Or.inr b⟩
  · exact Or.inr ⟨m, hm, a, rfl, by rw [b]; decide, c⟩
theorem sn_TLb {L ty tl : Nat → Int32} (h : ∀ s, s ≤ 9 → sn_TL (L s) (ty s) (tl s)) : ∀ s, s ≤ 9 → sn_b1 (ty s) := by
  intro s hs
  rcases h s hs with ⟨a, b, c⟩ | ⟨m, hm, a, b, c⟩
  · exact Or.inl b
  · exact Or.inr b
theorem sn_GP (hs : sb ≤ 64) (h : sn_GG sb b_sBody i c d st K V S oa ca sg dp pa f_itemCount y_nItems y_finalIdx a_itemKind a_itemValue a_openAt a_closeAt b_kind b_val b_stopOf b_par b_prim) : sn_PI c 0 st K V S oa ca sg dp pa ∧ c ≤ 65 ∧ oa 0 < c :=
  sn_ppI hs h.1
end SNX
end
section
section SOA
/-! the methods that render nothing -/
theorem sn_rng {x : Int32} : (x < 32 ∨ 126 < x) ∨ (¬ x < 32 ∧ ¬ 126 < x) := by
  by_cases a : x < 32
  · exact Or.inl (Or.inl a)
  · by_cases b : 126 < x
    · exact Or.inl (Or.inr b)
    · exact Or.inr ⟨a, b⟩
theorem sn_xcode {post : Int32 → Prop} {x : Int32} (h0 : (x < 32 ∨ (¬ x < 32 ∧ 126 < x)) → post 0) (h1 : ¬ x < 32 → ¬ 126 < x → post 1) : wpX_isCode post x := by
  by_cases a : x < 32
  · exact br_t a (h0 (Or.inl a))
  · by_cases b : 126 < x
    · exact br_f a (br_t b (h0 (Or.inr ⟨a, b⟩)))
    · exact br_f a (br_f b (h1 a b))
variable {f_capacity f_historyCap f_length f_caret f_selStart f_bodyLength f_undoDepth f_merge f_itemCount f_baseLength f_basePos f_activeStop f_selected f_draftCount f_depth f_readAt : Int32} {a_text a_body a_history a_itemKind a_itemValue a_openAt a_closeAt a_base a_typedLength a_typedText a_draftKind a_draftValue a_draftOpenAt a_draftCloseAt a_enclosing a_trialLength : Nat → Int32}
theorem sn_xins {post : Int32 → Prop} (h0 : f_activeStop = -1 → post 0) (h1 : ¬ f_activeStop = -1 → post 1) : wpX_inSession post (f_capacity, f_historyCap, f_length, f_caret, f_selStart, f_bodyLength, f_undoDepth, f_merge, f_itemCount, f_baseLength, f_basePos, f_activeStop, f_selected, f_draftCount, f_depth, f_readAt, a_text, a_body, a_history, a_itemKind, a_itemValue, a_openAt, a_closeAt, a_base, a_typedLength, a_typedText, a_draftKind, a_draftValue, a_draftOpenAt, a_draftCloseAt, a_enclosing, a_trialLength) := by
  by_cases a : f_activeStop = -1
  · exact br_t a (h0 a)
  · exact br_f a (h1 a)
end SOA
section SOB
theorem i_vc_feed {k : Nat} {u : SX} {v : SY} (I : i_Rel k u v) (hk : k + 3 ≤ 1538) (v1 : Int32) : wpX_feed (fun r u' => wpY_feed (fun r' v' => r' = r ∧ i_Rel (k + 3) u' v') v v1) u v1 := by
  obtain ⟨cap, hc, dep, n, sb, bl, bp, i, c, d, st, K, V, S, oa, ca, sg, dp, pa, f_length, f_caret, f_selStart, f_merge, f_itemCount, f_activeStop, f_selected, f_draftCount, f_depth, f_readAt, y_session, y_selected, y_nItems, y_finalIdx, y_fromStruct, y_rlen, y_tlen, y_svF, y_svL, a_text, a_body, a_history, a_itemKind, a_itemValue, a_openAt, a_closeAt, a_base, a_typedLength, a_typedText, a_draftKind, a_draftValue, a_draftOpenAt, a_draftCloseAt, a_enclosing, a_trialLength, b_sBody, b_typed, b_tLen, b_kind, b_val, b_stopOf, b_par, b_ipos, b_prim, b_stack, b_occ, b_rbuf, b_tbuf, b_svT, b_hist, rfl, rfl, R⟩ := I
  have J : i_Rel (k + 3) (nI cap, nI hc, f_length, f_caret, f_selStart, nI n, nI dep, f_merge, f_itemCount, nI bl, nI bp, f_activeStop, f_selected, f_draftCount, f_depth, f_readAt, a_text, a_body, a_history, a_itemKind, a_itemValue, a_openAt, a_closeAt, a_base, a_typedLength, a_typedText, a_draftKind, a_draftValue, a_draftOpenAt, a_draftCloseAt, a_enclosing, a_trialLength) (nI cap, nI hc, f_length, f_caret, f_selStart, nI n, nI sb, f_merge, y_session, y_selected, f_activeStop, y_nItems, y_finalIdx, y_fromStruct, nI bl, nI bp, y_rlen, y_tlen, 0, y_svF, y_svL, nI dep, a_text, a_body, b_sBody, b_typed, b_tLen, a_typedText, b_kind, b_val, b_stopOf, b_par, b_ipos, b_prim, b_stack, b_occ, a_base, b_rbuf, b_tbuf, b_svT, b_hist) := sn_mk R
  have n64 := R.1.2.2.2.2.2.1
  unfold wpX_feed
  refine sn_xcode (fun q => br_t rfl ?_) (fun q1 q2 => br_f (by decide) ?_)
  · rcases q with q | ⟨q1, q2⟩
    · exact br_t q ⟨rfl, J⟩
    · exact br_f q1 (br_f (Int32.not_le.mpr q2) ⟨rfl, J⟩)
  · by_cases z : n < 64
    · have lt : nI n < (64 : Int32) := nI_lt (b := 64) z (by omega)
      have vi : vp_in (nI n) 64 := vp_in_nI z (by omega)
      refine br_t lt ⟨vi, fun y ey w ew => br_f q1 (br_t (Int32.not_lt.mp q2) (br_t lt ⟨vi, fun y' ey' w' ew' => ⟨rfl, ?_⟩⟩))⟩
      rw [nI_1] at ew ew'
      subst ey ey' ew ew'
      exact sn_mk (n := n + 1) ⟨⟨R.1.1, R.1.2.1, R.1.2.2.1, R.1.2.2.2.1, R.1.2.2.2.2.1, by omega, R.1.2.2.2.2.2.2⟩, R.2⟩
    · have nlt : ¬ nI n < (64 : Int32) := nI_nlt (b := 64) (by omega) (by omega)
      exact br_f nlt (br_f q1 (br_t (Int32.not_lt.mp q2) (br_f nlt ⟨rfl, J⟩)))
theorem i_vc_clearSnippet {k : Nat} {u : SX} {v : SY} (I : i_Rel k u v) (hk : k + 3 ≤ 1538) : wpX_clearSnippet (fun u' => wpY_clearSnippet (fun v' => i_Rel (k + 3) u' v') v) u := by
  obtain ⟨cap, hc, dep, n, sb, bl, bp, i, c, d, st, K, V, S, oa, ca, sg, dp, pa, f_length, f_caret, f_selStart, f_merge, f_itemCount, f_activeStop, f_selected, f_draftCount, f_depth, f_readAt, y_session, y_selected, y_nItems, y_finalIdx, y_fromStruct, y_rlen, y_tlen, y_svF, y_svL, a_text, a_body, a_history, a_itemKind, a_itemValue, a_openAt, a_closeAt, a_base, a_typedLength, a_typedText, a_draftKind, a_draftValue, a_draftOpenAt, a_draftCloseAt, a_enclosing, a_trialLength, b_sBody, b_typed, b_tLen, b_kind, b_val, b_stopOf, b_par, b_ipos, b_prim, b_stack, b_occ, b_rbuf, b_tbuf, b_svT, b_hist, rfl, rfl, R⟩ := I
  exact sn_mk (k := k + 3) (n := 0) ⟨⟨R.1.1, R.1.2.1, R.1.2.2.1, R.1.2.2.2.1, R.1.2.2.2.2.1, by omega, R.1.2.2.2.2.2.2⟩, R.2⟩
theorem i_vc_bodyCharAt {k : Nat} {u : SX} {v : SY} (I : i_Rel k u v) (hk : k + 3 ≤ 1538) (v1 : Int32) : wpX_bodyCharAt (fun r => wpY_bodyCharAt (fun r' => r' = r ∧ i_Rel (k + 3) u v) v v1) u v1 := by
  obtain ⟨cap, hc, dep, n, sb, bl, bp, i, c, d, st, K, V, S, oa, ca, sg, dp, pa, f_length, f_caret, f_selStart, f_merge, f_itemCount, f_activeStop, f_selected, f_draftCount, f_depth, f_readAt, y_session, y_selected, y_nItems, y_finalIdx, y_fromStruct, y_rlen, y_tlen, y_svF, y_svL, a_text, a_body, a_history, a_itemKind, a_itemValue, a_openAt, a_closeAt, a_base, a_typedLength, a_typedText, a_draftKind, a_draftValue, a_draftOpenAt, a_draftCloseAt, a_enclosing, a_trialLength, b_sBody, b_typed, b_tLen, b_kind, b_val, b_stopOf, b_par, b_ipos, b_prim, b_stack, b_occ, b_rbuf, b_tbuf, b_svT, b_hist, rfl, rfl, R⟩ := I
  have J : i_Rel (k + 3) (nI cap, nI hc, f_length, f_caret, f_selStart, nI n, nI dep, f_merge, f_itemCount, nI bl, nI bp, f_activeStop, f_selected, f_draftCount, f_depth, f_readAt, a_text, a_body, a_history, a_itemKind, a_itemValue, a_openAt, a_closeAt, a_base, a_typedLength, a_typedText, a_draftKind, a_draftValue, a_draftOpenAt, a_draftCloseAt, a_enclosing, a_trialLength) (nI cap, nI hc, f_length, f_caret, f_selStart, nI n, nI sb, f_merge, y_session, y_selected, f_activeStop, y_nItems, y_finalIdx, y_fromStruct, nI bl, nI bp, y_rlen, y_tlen, 0, y_svF, y_svL, nI dep, a_text, a_body, b_sBody, b_typed, b_tLen, a_typedText, b_kind, b_val, b_stopOf, b_par, b_ipos, b_prim, b_stack, b_occ, a_base, b_rbuf, b_tbuf, b_svT, b_hist) := sn_mk R
  have n64 := R.1.2.2.2.2.2.1
  by_cases a : v1 < 0
  · exact br_t a (br_t a ⟨rfl, J⟩)
  · by_cases b : v1 < nI n
    · obtain ⟨j, hj, rfl⟩ := nI_of a
      have z : j < n := (nI_ltI hj (by omega)).mp b
      have vi : vp_in (nI j) 64 := vp_in_nI (by omega) (by omega)
      exact br_f a (br_t b ⟨vi, br_f a (br_t b ⟨vi, rfl, J⟩)⟩)
    · exact br_f a (br_f b (br_f a (br_f b ⟨rfl, J⟩)))
theorem i_vc_charAt {k : Nat} {u : SX} {v : SY} (I : i_Rel k u v) (hk : k + 3 ≤ 1538) (v1 : Int32) : wpX_charAt (fun r => wpY_charAt (fun r' => r' = r ∧ i_Rel (k + 3) u v) v v1) u v1 := by
  obtain ⟨cap, hc, dep, n, sb, bl, bp, i, c, d, st, K, V, S, oa, ca, sg, dp, pa, f_length, f_caret, f_selStart, f_merge, f_itemCount, f_activeStop, f_selected, f_draftCount, f_depth, f_readAt, y_session, y_selected, y_nItems, y_finalIdx, y_fromStruct, y_rlen, y_tlen, y_svF, y_svL, a_text, a_body, a_history, a_itemKind, a_itemValue, a_openAt, a_closeAt, a_base, a_typedLength, a_typedText, a_draftKind, a_draftValue, a_draftOpenAt, a_draftCloseAt, a_enclosing, a_trialLength, b_sBody, b_typed, b_tLen, b_kind, b_val, b_stopOf, b_par, b_ipos, b_prim, b_stack, b_occ, b_rbuf, b_tbuf, b_svT, b_hist, rfl, rfl, R⟩ := I
  have J : i_Rel (k + 3) (nI cap, nI hc, f_length, f_caret, f_selStart, nI n, nI dep, f_merge, f_itemCount, nI bl, nI bp, f_activeStop, f_selected, f_draftCount, f_depth, f_readAt, a_text, a_body, a_history, a_itemKind, a_itemValue, a_openAt, a_closeAt, a_base, a_typedLength, a_typedText, a_draftKind, a_draftValue, a_draftOpenAt, a_draftCloseAt, a_enclosing, a_trialLength) (nI cap, nI hc, f_length, f_caret, f_selStart, nI n, nI sb, f_merge, y_session, y_selected, f_activeStop, y_nItems, y_finalIdx, y_fromStruct, nI bl, nI bp, y_rlen, y_tlen, 0, y_svF, y_svL, nI dep, a_text, a_body, b_sBody, b_typed, b_tLen, a_typedText, b_kind, b_val, b_stopOf, b_par, b_ipos, b_prim, b_stack, b_occ, a_base, b_rbuf, b_tbuf, b_svT, b_hist) := sn_mk R
  have c64 := R.1.2.1
  obtain ⟨_, _, l, q, el, eq, hl, hlc, _⟩ := R.2.2.1
  subst el
  by_cases a : v1 < 0
  · exact br_t a (br_t a ⟨rfl, J⟩)
  · by_cases b : v1 < nI l
    · obtain ⟨j, hj, rfl⟩ := nI_of a
      have z : j < l := (nI_ltI hj (by omega)).mp b
      have vi : vp_in (nI j) 64 := vp_in_nI (by omega) (by omega)
      exact br_f a (br_t b ⟨vi, br_f a (br_f (Int32.not_le.mpr b) (br_t (nI_lt (b := 64) (by omega) (by omega)) ⟨vi, rfl, J⟩))⟩)
    · exact br_f a (br_f b (br_f a (br_t (Int32.not_lt.mp b) ⟨rfl, J⟩)))
theorem i_vc_setCaret {k : Nat} {u : SX} {v : SY} (I : i_Rel k u v) (hk : k + 3 ≤ 1538) (v1 : Int32) : wpX_setCaret (fun r u' => wpY_setCaret (fun r' v' => r' = r ∧ i_Rel (k + 3) u' v') v v1) u v1 := by
  obtain ⟨cap, hc, dep, n, sb, bl, bp, i, c, d, st, K, V, S, oa, ca, sg, dp, pa, f_length, f_caret, f_selStart, f_merge, f_itemCount, f_activeStop, f_selected, f_draftCount, f_depth, f_readAt, y_session, y_selected, y_nItems, y_finalIdx, y_fromStruct, y_rlen, y_tlen, y_svF, y_svL, a_text, a_body, a_history, a_itemKind, a_itemValue, a_openAt, a_closeAt, a_base, a_typedLength, a_typedText, a_draftKind, a_draftValue, a_draftOpenAt, a_draftCloseAt, a_enclosing, a_trialLength, b_sBody, b_typed, b_tLen, b_kind, b_val, b_stopOf, b_par, b_ipos, b_prim, b_stack, b_occ, b_rbuf, b_tbuf, b_svT, b_hist, rfl, rfl, R⟩ := I
  have J : i_Rel (k + 3) (nI cap, nI hc, f_length, f_caret, f_selStart, nI n, nI dep, f_merge, f_itemCount, nI bl, nI bp, f_activeStop, f_selected, f_draftCount, f_depth, f_readAt, a_text, a_body, a_history, a_itemKind, a_itemValue, a_openAt, a_closeAt, a_base, a_typedLength, a_typedText, a_draftKind, a_draftValue, a_draftOpenAt, a_draftCloseAt, a_enclosing, a_trialLength) (nI cap, nI hc, f_length, f_caret, f_selStart, nI n, nI sb, f_merge, y_session, y_selected, f_activeStop, y_nItems, y_finalIdx, y_fromStruct, nI bl, nI bp, y_rlen, y_tlen, 0, y_svF, y_svL, nI dep, a_text, a_body, b_sBody, b_typed, b_tLen, a_typedText, b_kind, b_val, b_stopOf, b_par, b_ipos, b_prim, b_stack, b_occ, a_base, b_rbuf, b_tbuf, b_svT, b_hist) := sn_mk R
  have c64 := R.1.2.1
  obtain ⟨R1, R2, ⟨b1, b2, l, q, el, eq, hl, hlc, hS⟩, R4⟩ := R
  subst el
  unfold wpX_setCaret
  rcases hS with ⟨ea, es⟩ | ⟨es, _, _, a, ea, a1, a9, _⟩
  · subst ea es
    refine sn_xins (fun _ => br_t rfl ?_) (fun z => absurd rfl z)
    by_cases a : v1 < 0
    · exact br_t a (br_t rfl (br_t a ⟨rfl, J⟩))
    · by_cases b : v1 ≤ nI l
      · obtain ⟨j, hj, rfl⟩ := nI_of a
        have z : j ≤ l := (nI_leI hj (by omega)).mp b
        exact br_f a (br_t b (br_t rfl (br_f a (br_t b ⟨rfl, sn_mk ⟨R1, R2, ⟨b1, b2, l, j, rfl, rfl, z, hlc, Or.inl ⟨rfl, rfl⟩⟩, R4⟩⟩))))
      · exact br_f a (br_f b (br_t rfl (br_f a (br_f b ⟨rfl, J⟩))))
  · subst ea es
    exact sn_xins (fun z => absurd z (sn_nm1 (by omega))) (fun _ => br_f (by decide) (br_f (by decide) ⟨rfl, J⟩))
theorem i_vc_escape {k : Nat} {u : SX} {v : SY} (I : i_Rel k u v) (hk : k + 3 ≤ 1538) : wpX_escape (fun r u' => wpY_escape (fun r' v' => r' = r ∧ i_Rel (k + 3) u' v') v) u := by
  obtain ⟨cap, hc, dep, n, sb, bl, bp, i, c, d, st, K, V, S, oa, ca, sg, dp, pa, f_length, f_caret, f_selStart, f_merge, f_itemCount, f_activeStop, f_selected, f_draftCount, f_depth, f_readAt, y_session, y_selected, y_nItems, y_finalIdx, y_fromStruct, y_rlen, y_tlen, y_svF, y_svL, a_text, a_body, a_history, a_itemKind, a_itemValue, a_openAt, a_closeAt, a_base, a_typedLength, a_typedText, a_draftKind, a_draftValue, a_draftOpenAt, a_draftCloseAt, a_enclosing, a_trialLength, b_sBody, b_typed, b_tLen, b_kind, b_val, b_stopOf, b_par, b_ipos, b_prim, b_stack, b_occ, b_rbuf, b_tbuf, b_svT, b_hist, rfl, rfl, R⟩ := I
  have J : i_Rel (k + 3) (nI cap, nI hc, f_length, f_caret, f_selStart, nI n, nI dep, f_merge, f_itemCount, nI bl, nI bp, f_activeStop, f_selected, f_draftCount, f_depth, f_readAt, a_text, a_body, a_history, a_itemKind, a_itemValue, a_openAt, a_closeAt, a_base, a_typedLength, a_typedText, a_draftKind, a_draftValue, a_draftOpenAt, a_draftCloseAt, a_enclosing, a_trialLength) (nI cap, nI hc, f_length, f_caret, f_selStart, nI n, nI sb, f_merge, y_session, y_selected, f_activeStop, y_nItems, y_finalIdx, y_fromStruct, nI bl, nI bp, y_rlen, y_tlen, 0, y_svF, y_svL, nI dep, a_text, a_body, b_sBody, b_typed, b_tLen, a_typedText, b_kind, b_val, b_stopOf, b_par, b_ipos, b_prim, b_stack, b_occ, a_base, b_rbuf, b_tbuf, b_svT, b_hist) := sn_mk R
  obtain ⟨R1, R2, ⟨b1, b2, l, q, el, eq, hl, hlc, hS⟩, R4⟩ := R
  unfold wpX_escape
  rcases hS with ⟨ea, es⟩ | ⟨es, _, _, a, ea, a1, a9, _⟩
  · subst ea es
    exact sn_xins (fun _ => br_t rfl (br_t rfl ⟨rfl, J⟩)) (fun z => absurd rfl z)
  · subst ea es
    refine sn_xins (fun z => absurd z (sn_nm1 (by omega))) (fun _ => br_f (by decide) (br_f (by decide) ⟨rfl, ?_⟩))
    exact sn_mk ⟨R1, R2, ⟨b1, Or.inl rfl, l, q, el, eq, hl, hlc, Or.inl ⟨rfl, rfl⟩⟩, R4⟩
end SOB
end
section
section SOB
theorem i_vc0 (k0 : Int32) (k1 : Int32) : wpX_init (fun u => wpY_init (fun v => i_Rel 2 u v) k0 k1) k0 k1 := by
  unfold wpX_init
  refine sn_clamp (x := k0) 8 64 rfl rfl (by omega) (by omega) (fun cap c1 c2 c3 c4 c5 => ?_)
  refine sn_clamp (x := k1) 1 16 rfl rfl (by omega) (by omega) (fun hc h1 h2 h3 h4 h5 => ?_)
  refine sn_xclr (fun L hL => ?_)
  have fin : i_Rel 2 (nI cap, nI hc, 0, 0, 0, 0, 0, 0, 0, 0, 0, -1, 0, 0, 0, 0, fun _ => 0, fun _ => 0, fun _ => 0, fun _ => 0, fun _ => 0, fun _ => 0, fun _ => 0, fun _ => 0, L, fun _ => 0, fun _ => 0, fun _ => 0, fun _ => 0, fun _ => 0, fun _ => 0, fun _ => 0)
      (nI cap, nI hc, 0, 0, 0, 0, 0, 0, 0, 0, -1, 0, -1, 0, 0, 0, 0, 0, 0, 0, 0, 0, fun _ => 0, fun _ => 0, fun _ => 0, fun _ => 0, fun _ => 0, fun _ => 0, fun _ => 0, fun _ => 0, fun _ => 0, fun _ => 0, fun _ => 0, fun _ => 0, fun _ => 0, fun _ => 0, fun _ => 0, fun _ => 0, fun _ => 0, fun _ => 0, fun _ => 0) := by
    refine sn_mk (dep := 0) (n := 0) (sb := 0) (bl := 0) (bp := 0) (i := 0) (c := 0) (d := 0) (st := fun _ => 0) (K := fun _ => 0) (V := fun _ => 0) (S := fun _ => 0) (oa := fun _ => 0) (ca := fun _ => 0) (sg := fun _ => 0) (dp := fun _ => 0) (pa := fun _ => 0) ⟨⟨by omega, by omega, by omega, by omega, by omega, by omega, by omega, by omega, by omega⟩, fun s hs => Or.inl ⟨hL s hs, rfl, rfl⟩, ⟨Or.inl rfl, Or.inl rfl, 0, 0, rfl, rfl, by omega, by omega, Or.inl ⟨rfl, rfl⟩⟩, fun h hh => absurd hh (by omega)⟩
  have Y191 : ∀ z : Int32, z = nI cap → wY_init_191 (fun v => i_Rel 2 (nI cap, nI hc, 0, 0, 0, 0, 0, 0, 0, 0, 0, -1, 0, 0, 0, 0, fun _ => 0, fun _ => 0, fun _ => 0, fun _ => 0, fun _ => 0, fun _ => 0, fun _ => 0, fun _ => 0, L, fun _ => 0, fun _ => 0, fun _ => 0, fun _ => 0, fun _ => 0, fun _ => 0, fun _ => 0) v) k1 z 0 0 0 0 0 0 0 0 0 0 (-1) 0 (-1) 0 0 0 0 0 0 0 0 0 (fun _ => 0) (fun _ => 0) (fun _ => 0) (fun _ => 0) (fun _ => 0) (fun _ => 0) (fun _ => 0) (fun _ => 0) (fun _ => 0) (fun _ => 0) (fun _ => 0) (fun _ => 0) (fun _ => 0) (fun _ => 0) (fun _ => 0) (fun _ => 0) (fun _ => 0) (fun _ => 0) (fun _ => 0) := by
    intro z ez
    subst ez
    by_cases a : 1 ≤ k1
    · by_cases b : k1 ≤ 16
      · have e := h5 a b
        refine br_t a (br_t b ?_)
        rw [e]; exact fin
      · have e := h4 a b
        subst e
        exact br_t a (br_f b fin)
    · have e := h3 a
      subst e
      exact br_f a fin
  by_cases a : 8 ≤ k0
  · by_cases b : k0 ≤ 64
    · exact br_t a (br_t b (Y191 _ (c5 a b)))
    · exact br_t a (br_f b (Y191 _ (by rw [c4 a b]; rfl)))
  · exact br_f a (Y191 _ (by rw [c3 a]; rfl))
end SOB
end
section
section SOC
theorem i_vc_info {k : Nat} {u : SX} {v : SY} (I : i_Rel k u v) (hk : k + 3 ≤ 1538) (v1 : Int32) : wpX_info (fun r => wpY_info (fun r' => r' = r ∧ i_Rel (k + 3) u v) v v1) u v1 := by
  obtain ⟨cap, hc, dep, n, sb, bl, bp, i, c, d, st, K, V, S, oa, ca, sg, dp, pa, f_length, f_caret, f_selStart, f_merge, f_itemCount, f_activeStop, f_selected, f_draftCount, f_depth, f_readAt, y_session, y_selected, y_nItems, y_finalIdx, y_fromStruct, y_rlen, y_tlen, y_svF, y_svL, a_text, a_body, a_history, a_itemKind, a_itemValue, a_openAt, a_closeAt, a_base, a_typedLength, a_typedText, a_draftKind, a_draftValue, a_draftOpenAt, a_draftCloseAt, a_enclosing, a_trialLength, b_sBody, b_typed, b_tLen, b_kind, b_val, b_stopOf, b_par, b_ipos, b_prim, b_stack, b_occ, b_rbuf, b_tbuf, b_svT, b_hist, rfl, rfl, R⟩ := I
  have J : i_Rel (k + 3) (nI cap, nI hc, f_length, f_caret, f_selStart, nI n, nI dep, f_merge, f_itemCount, nI bl, nI bp, f_activeStop, f_selected, f_draftCount, f_depth, f_readAt, a_text, a_body, a_history, a_itemKind, a_itemValue, a_openAt, a_closeAt, a_base, a_typedLength, a_typedText, a_draftKind, a_draftValue, a_draftOpenAt, a_draftCloseAt, a_enclosing, a_trialLength) (nI cap, nI hc, f_length, f_caret, f_selStart, nI n, nI sb, f_merge, y_session, y_selected, f_activeStop, y_nItems, y_finalIdx, y_fromStruct, nI bl, nI bp, y_rlen, y_tlen, 0, y_svF, y_svL, nI dep, a_text, a_body, b_sBody, b_typed, b_tLen, a_typedText, b_kind, b_val, b_stopOf, b_par, b_ipos, b_prim, b_stack, b_occ, a_base, b_rbuf, b_tbuf, b_svT, b_hist) := sn_mk R
  obtain ⟨R1, R2, ⟨b1, b2, l, q, el, eq, hl, hlc, hS⟩, R4⟩ := R
  by_cases a : v1 < 0
  · have ne : ∀ y : Int32, 0 ≤ y → ¬ v1 = y := fun y hy e => absurd (Int32.lt_of_le_of_lt hy (by rw [← e]; exact a)) Int32.lt_irrefl
    exact br_t a (br_f (ne 0 (by decide)) (br_f (ne 1 (by decide)) (br_f (ne 2 (by decide)) (br_f (ne 3 (by decide)) (br_f (ne 4 (by decide)) (br_f (ne 5 (by decide)) (br_f (ne 6 (by decide)) (br_f (ne 7 (by decide)) (br_f (ne 8 (by decide)) (br_f (ne 9 (by decide)) ⟨rfl, J⟩))))))))))
  · refine br_f a ?_
    by_cases b : 9 < v1
    · have ne : ∀ y : Int32, y ≤ 9 → ¬ v1 = y := fun y hy e => absurd (Int32.lt_of_le_of_lt hy (by rw [← e]; exact b)) Int32.lt_irrefl
      exact br_t b (br_f (ne 0 (by decide)) (br_f (ne 1 (by decide)) (br_f (ne 2 (by decide)) (br_f (ne 3 (by decide)) (br_f (ne 4 (by decide)) (br_f (ne 5 (by decide)) (br_f (ne 6 (by decide)) (br_f (ne 7 (by decide)) (br_f (ne 8 (by decide)) (br_f (ne 9 (by decide)) ⟨rfl, J⟩))))))))))
    · refine br_f b ?_
      refine br_c (fun e => ?_) (fun e0 => br_c (fun e => ?_) (fun e1 => br_c (fun e => ?_) (fun e2 => br_c (fun e => ?_) (fun e3 => br_c (fun e => ?_) (fun e4 => br_c (fun e => ?_) (fun e5 => br_c (fun e => ?_) (fun e6 => br_c (fun e => ?_) (fun e7 => br_c (fun e => ?_) (fun e8 => br_c (fun e => ?_) (fun e9 => True.intro))))))))))
      · exact br_t e ⟨rfl, J⟩
      · exact br_f e0 (br_t e ⟨rfl, J⟩)
      · exact br_f e0 (br_f e1 (br_t e ⟨rfl, J⟩))
      · refine br_f e0 (br_f e1 (br_f e2 (br_t e ?_)))
        rcases hS with ⟨ea, es⟩ | ⟨es, _⟩
        · exact br_t es ⟨ea.symm, J⟩
        · exact br_f (by rw [es]; decide) ⟨rfl, J⟩
      · rcases hS with ⟨ea, es⟩ | ⟨es, e2', _, a', ea, a1, a9, _⟩
        · exact sn_xins (fun _ => br_t rfl (br_f e0 (br_f e1 (br_f e2 (br_f e3 (br_t e (br_t es ⟨rfl, J⟩))))))) (fun z => absurd ea z)
        · refine sn_xins (fun z => absurd z (by rw [ea]; exact sn_nm1 (by omega))) (fun _ => br_f (by decide) ?_)
          subst e2'
          by_cases s0 : y_selected = 0
          · exact br_t s0 (br_f e0 (br_f e1 (br_f e2 (br_f e3 (br_t e (br_f (by rw [es]; decide) (br_t s0 ⟨rfl, J⟩)))))))
          · exact br_f s0 (br_f e0 (br_f e1 (br_f e2 (br_f e3 (br_t e (br_f (by rw [es]; decide) (br_f s0 ⟨rfl, J⟩)))))))
      · exact br_f e0 (br_f e1 (br_f e2 (br_f e3 (br_f e4 (br_t e ⟨rfl, J⟩)))))
      · exact br_f e0 (br_f e1 (br_f e2 (br_f e3 (br_f e4 (br_f e5 (br_t e ⟨rfl, J⟩))))))
      · by_cases m0 : f_merge = 0
        · exact br_t m0 (br_f e0 (br_f e1 (br_f e2 (br_f e3 (br_f e4 (br_f e5 (br_f e6 (br_t e (br_t m0 ⟨rfl, J⟩)))))))))
        · exact br_f m0 (br_f e0 (br_f e1 (br_f e2 (br_f e3 (br_f e4 (br_f e5 (br_f e6 (br_t e (br_f m0 ⟨rfl, J⟩)))))))))
      · exact br_f e0 (br_f e1 (br_f e2 (br_f e3 (br_f e4 (br_f e5 (br_f e6 (br_f e7 (br_t e ⟨rfl, J⟩))))))))
      · exact br_f e0 (br_f e1 (br_f e2 (br_f e3 (br_f e4 (br_f e5 (br_f e6 (br_f e7 (br_f e8 (br_t e ⟨rfl, J⟩)))))))))
end SOC
end
section
section SOD
theorem sn_elim {motive : SX → SY → Prop} (h : ∀ (cap hc dep n sb bl bp i c d : Nat) (st K : Nat → Nat) (V : Nat → Int32) (S oa ca sg dp pa : Nat → Nat) (f_length f_caret f_selStart f_merge f_itemCount f_activeStop f_selected f_draftCount f_depth f_readAt y_session y_selected y_nItems y_finalIdx y_fromStruct y_rlen y_tlen y_svF y_svL : Int32) (a_text a_body a_history a_itemKind a_itemValue a_openAt a_closeAt a_base a_typedLength a_typedText a_draftKind a_draftValue a_draftOpenAt a_draftCloseAt a_enclosing a_trialLength b_sBody b_typed b_tLen b_kind b_val b_stopOf b_par b_ipos b_prim b_stack b_occ b_rbuf b_tbuf b_svT b_hist : Nat → Int32), sn_RF cap hc dep n sb bl bp i c d st K V S oa ca sg dp pa f_length f_caret f_activeStop f_selected y_session y_selected f_itemCount y_nItems y_finalIdx a_typedLength b_typed b_tLen b_sBody a_itemKind a_itemValue a_openAt a_closeAt b_kind b_val b_stopOf b_par b_prim a_history b_hist → motive (nI cap, nI hc, f_length, f_caret, f_selStart, nI n, nI dep, f_merge, f_itemCount, nI bl, nI bp, f_activeStop, f_selected, f_draftCount, f_depth, f_readAt, a_text, a_body, a_history, a_itemKind, a_itemValue, a_openAt, a_closeAt, a_base, a_typedLength, a_typedText, a_draftKind, a_draftValue, a_draftOpenAt, a_draftCloseAt, a_enclosing, a_trialLength) (nI cap, nI hc, f_length, f_caret, f_selStart, nI n, nI sb, f_merge, y_session, y_selected, f_activeStop, y_nItems, y_finalIdx, y_fromStruct, nI bl, nI bp, y_rlen, y_tlen, 0, y_svF, y_svL, nI dep, a_text, a_body, b_sBody, b_typed, b_tLen, a_typedText, b_kind, b_val, b_stopOf, b_par, b_ipos, b_prim, b_stack, b_occ, a_base, b_rbuf, b_tbuf, b_svT, b_hist)) {k : Nat} {u : SX} {v : SY} (I : i_Rel k u v) : motive u v := by
  obtain ⟨cap, hc, dep, n, sb, bl, bp, i, c, d, st, K, V, S, oa, ca, sg, dp, pa, f_length, f_caret, f_selStart, f_merge, f_itemCount, f_activeStop, f_selected, f_draftCount, f_depth, f_readAt, y_session, y_selected, y_nItems, y_finalIdx, y_fromStruct, y_rlen, y_tlen, y_svF, y_svL, a_text, a_body, a_history, a_itemKind, a_itemValue, a_openAt, a_closeAt, a_base, a_typedLength, a_typedText, a_draftKind, a_draftValue, a_draftOpenAt, a_draftCloseAt, a_enclosing, a_trialLength, b_sBody, b_typed, b_tLen, b_kind, b_val, b_stopOf, b_par, b_ipos, b_prim, b_stack, b_occ, b_rbuf, b_tbuf, b_svT, b_hist, rfl, rfl, R⟩ := I
  exact h cap hc dep n sb bl bp i c d st K V S oa ca sg dp pa f_length f_caret f_selStart f_merge f_itemCount f_activeStop f_selected f_draftCount f_depth f_readAt y_session y_selected y_nItems y_finalIdx y_fromStruct y_rlen y_tlen y_svF y_svL a_text a_body a_history a_itemKind a_itemValue a_openAt a_closeAt a_base a_typedLength a_typedText a_draftKind a_draftValue a_draftOpenAt a_draftCloseAt a_enclosing a_trialLength b_sBody b_typed b_tLen b_kind b_val b_stopOf b_par b_ipos b_prim b_stack b_occ b_rbuf b_tbuf b_svT b_hist R
end SOD
section SOE
/-! Y: to the next and the previous stop -/
variable {K S oa ca sg dp pa st : Nat → Nat} {V L : Nat → Int32} {c : Nat}
variable {f_cap f_hcap f_len f_caret f_sel f_bodyLen f_sBodyLen f_merge f_session f_selected f_active f_nItems f_finalIdx f_fromStruct f_baseLen f_baseP f_rlen f_tlen f_clearAll f_svF f_svL f_hCount : Int32} {a_buf a_body a_sBody a_typed a_tLen a_tText a_kind a_val a_stopOf a_par a_ipos a_prim a_stack a_occ a_base a_rbuf a_tbuf a_svT a_hist : Nat → Int32}
variable {post : Int32 → SY → Prop}
theorem sn_ynA (P : sn_PI c 0 st K V S oa ca sg dp pa) (hc : c ≤ 65) (Y : sn_YS c K V S oa sg pa f_nItems f_finalIdx a_kind a_val a_stopOf a_par a_prim) (T : sn_YT f_clearAll a_typed a_tLen L) (bp a : Nat) (h9 : a ≤ 9) (al : sn_AL oa ca L a)
    (h : ∀ rl rb tb tl ip, post 0 (f_cap, f_hcap, f_len, nI (bp + (sn_rr K V S oa ca L a_tText (ca a)).length), nI (bp + (sn_rr K V S oa ca L a_tText (oa a)).length), f_bodyLen, f_sBodyLen, f_merge, f_session, 1, nI a, f_nItems, f_finalIdx, f_fromStruct, f_baseLen, nI bp, rl, tl, f_clearAll, f_svF, f_svL, f_hCount, a_buf, a_body, a_sBody, a_typed, a_tLen, a_tText, a_kind, a_val, a_stopOf, a_par, ip, a_prim, a_stack, a_occ, a_base, rb, tb, a_svT, a_hist)) :
    ∀ m x n, x + m = a → 1 ≤ x → m < n → (∀ t, x ≤ t → t < a → ¬ sn_AL oa ca L t) → wY_next_21 post f_cap f_hcap f_len f_caret f_sel f_bodyLen f_sBodyLen f_merge f_session f_selected f_active f_nItems f_finalIdx f_fromStruct f_baseLen (nI bp) f_rlen f_tlen f_clearAll f_svF f_svL f_hCount a_buf a_body a_sBody a_typed a_tLen a_tText a_kind a_val a_stopOf a_par a_ipos a_prim a_stack a_occ a_base a_rbuf a_tbuf a_svT a_hist n (nI x) := by
  intro m
  induction m with
  | zero =>
    intro x n hi h1 hn ht
    obtain ⟨n, rfl⟩ : ∃ k, n = k + 1 := ⟨n - 1, by omega⟩
    obtain rfl : x = a := by omega
    refine br_f (fun y => absurd ((nI_ltI (a := 9) (b := x) (by omega) (by omega)).mp y) (by omega)) ?_
    refine sn_yalv P hc Y T x rfl h1 h9 (fun _ => br_f (by decide) ?_) (fun z => absurd al z)
    exact sn_ysel P hc Y T bp x rfl h1 h9 al h
  | succ m ih =>
    intro x n hi h1 hn ht
    obtain ⟨n, rfl⟩ : ∃ k, n = k + 1 := ⟨n - 1, by omega⟩
    refine br_f (fun y => absurd ((nI_ltI (a := 9) (b := x) (by omega) (by omega)).mp y) (by omega)) ?_
    refine sn_yalv P hc Y T x rfl h1 (by omega) (fun z => absurd z (ht x (Nat.le_refl _) (by omega))) (fun _ => br_t rfl (fun y ey => ?_))
    rw [ey, nI_1]
    exact ih (x + 1) n (by omega) (by omega) (by omega) (fun t h2 h3 => ht t (by omega) h3)
theorem sn_ynN (P : sn_PI c 0 st K V S oa ca sg dp pa) (hc : c ≤ 65) (h00 : oa 0 < c) (Y : sn_YS c K V S oa sg pa f_nItems f_finalIdx a_kind a_val a_stopOf a_par a_prim) (T : sn_YT f_clearAll a_typed a_tLen L) (bp : Nat)
    (h : ∀ rl rb tb tl ip, post 0 (f_cap, f_hcap, f_len, nI (bp + (sn_rr K V S oa ca L a_tText (oa 0)).length), nI (bp + (sn_rr K V S oa ca L a_tText (oa 0)).length), f_bodyLen, f_sBodyLen, f_merge, 0, 0, (-1), f_nItems, f_finalIdx, f_fromStruct, f_baseLen, nI bp, rl, tl, f_clearAll, f_svF, f_svL, f_hCount, a_buf, a_body, a_sBody, a_typed, a_tLen, a_tText, a_kind, a_val, a_stopOf, a_par, ip, a_prim, a_stack, a_occ, a_base, rb, tb, a_svT, a_hist)) :
    ∀ m x n, x + m = 10 → 1 ≤ x → m < n → (∀ t, x ≤ t → t ≤ 9 → ¬ sn_AL oa ca L t) → wY_next_21 post f_cap f_hcap f_len f_caret f_sel f_bodyLen f_sBodyLen f_merge f_session f_selected f_active f_nItems f_finalIdx f_fromStruct f_baseLen (nI bp) f_rlen f_tlen f_clearAll f_svF f_svL f_hCount a_buf a_body a_sBody a_typed a_tLen a_tText a_kind a_val a_stopOf a_par a_ipos a_prim a_stack a_occ a_base a_rbuf a_tbuf a_svT a_hist n (nI x) := by
  intro m
  induction m with
  | zero =>
    intro x n hi h1 hn ht
    obtain ⟨n, rfl⟩ : ∃ k, n = k + 1 := ⟨n - 1, by omega⟩
    obtain rfl : x = 10 := by omega
    refine br_t (by decide) ?_
    exact sn_yfp P hc Y T bp h00 (fun rl rb tb tl ip => h rl rb tb tl ip)
  | succ m ih =>
    intro x n hi h1 hn ht
    obtain ⟨n, rfl⟩ : ∃ k, n = k + 1 := ⟨n - 1, by omega⟩
    refine br_f (fun y => absurd ((nI_ltI (a := 9) (b := x) (by omega) (by omega)).mp y) (by omega)) ?_
    refine sn_yalv P hc Y T x rfl h1 (by omega) (fun z => absurd z (ht x (Nat.le_refl _) (by omega))) (fun _ => br_t rfl (fun y ey => ?_))
    rw [ey, nI_1]
    exact ih (x + 1) n (by omega) (by omega) (by omega) (fun t h2 h3 => ht t (by omega) h3)
theorem sn_ypA (P : sn_PI c 0 st K V S oa ca sg dp pa) (hc : c ≤ 65) (Y : sn_YS c K V S oa sg pa f_nItems f_finalIdx a_kind a_val a_stopOf a_par a_prim) (T : sn_YT f_clearAll a_typed a_tLen L) (bp a : Nat) (h1 : 1 ≤ a) (al : sn_AL oa ca L a)
    (h : ∀ rl rb tb tl ip, post 0 (f_cap, f_hcap, f_len, nI (bp + (sn_rr K V S oa ca L a_tText (ca a)).length), nI (bp + (sn_rr K V S oa ca L a_tText (oa a)).length), f_bodyLen, f_sBodyLen, 0, f_session, 1, nI a, f_nItems, f_finalIdx, f_fromStruct, f_baseLen, nI bp, rl, tl, f_clearAll, f_svF, f_svL, f_hCount, a_buf, a_body, a_sBody, a_typed, a_tLen, a_tText, a_kind, a_val, a_stopOf, a_par, ip, a_prim, a_stack, a_occ, a_base, rb, tb, a_svT, a_hist)) :
    ∀ m x n, a + m = x → x ≤ 9 → m < n → (∀ t, a < t → t ≤ x → ¬ sn_AL oa ca L t) → wY_prev_16 post f_cap f_hcap f_len f_caret f_sel f_bodyLen f_sBodyLen f_merge f_session f_selected f_active f_nItems f_finalIdx f_fromStruct f_baseLen (nI bp) f_rlen f_tlen f_clearAll f_svF f_svL f_hCount a_buf a_body a_sBody a_typed a_tLen a_tText a_kind a_val a_stopOf a_par a_ipos a_prim a_stack a_occ a_base a_rbuf a_tbuf a_svT a_hist n (nI x) := by
  intro m
  induction m with
  | zero =>
    intro x n hi h9 hn ht
    obtain ⟨n, rfl⟩ : ∃ k, n = k + 1 := ⟨n - 1, by omega⟩
    obtain rfl : x = a := by omega
    refine br_f (fun y => absurd ((nI_ltI (a := x) (b := 1) (by omega) (by omega)).mp y) (by omega)) ?_
    refine sn_yalv P hc Y T x rfl h1 h9 (fun _ => br_f (by decide) ?_) (fun z => absurd al z)
    exact sn_ysel P hc Y T bp x rfl h1 h9 al h
  | succ m ih =>
    intro x n hi h9 hn ht
    obtain ⟨n, rfl⟩ : ∃ k, n = k + 1 := ⟨n - 1, by omega⟩
    obtain ⟨x, rfl⟩ : ∃ j, x = j + 1 := ⟨x - 1, by omega⟩
    refine br_f (fun y => absurd ((nI_ltI (a := x + 1) (b := 1) (by omega) (by omega)).mp y) (by omega)) ?_
    refine sn_yalv P hc Y T (x + 1) rfl (by omega) (by omega) (fun z => absurd z (ht (x + 1) (by omega) (Nat.le_refl _))) (fun _ => br_t rfl (fun y ey => ?_))
    rw [ey, pk_m1]
    exact ih x n (by omega) (by omega) (by omega) (fun t h2 h3 => ht t h2 (by omega))
theorem sn_ypN (P : sn_PI c 0 st K V S oa ca sg dp pa) (hc : c ≤ 65) (Y : sn_YS c K V S oa sg pa f_nItems f_finalIdx a_kind a_val a_stopOf a_par a_prim) (T : sn_YT f_clearAll a_typed a_tLen L) (h : post (-7) (f_cap, f_hcap, f_len, f_caret, f_sel, f_bodyLen, f_sBodyLen, f_merge, f_session, f_selected, f_active, f_nItems, f_finalIdx, f_fromStruct, f_baseLen, f_baseP, f_rlen, f_tlen, f_clearAll, f_svF, f_svL, f_hCount, a_buf, a_body, a_sBody, a_typed, a_tLen, a_tText, a_kind, a_val, a_stopOf, a_par, a_ipos, a_prim, a_stack, a_occ, a_base, a_rbuf, a_tbuf, a_svT, a_hist)) :
    ∀ x n, x ≤ 9 → x < n → (∀ t, 1 ≤ t → t ≤ x → ¬ sn_AL oa ca L t) → wY_prev_16 post f_cap f_hcap f_len f_caret f_sel f_bodyLen f_sBodyLen f_merge f_session f_selected f_active f_nItems f_finalIdx f_fromStruct f_baseLen f_baseP f_rlen f_tlen f_clearAll f_svF f_svL f_hCount a_buf a_body a_sBody a_typed a_tLen a_tText a_kind a_val a_stopOf a_par a_ipos a_prim a_stack a_occ a_base a_rbuf a_tbuf a_svT a_hist n (nI x) := by
  intro x
  induction x with
  | zero =>
    intro n h9 hn ht
    obtain ⟨n, rfl⟩ : ∃ k, n = k + 1 := ⟨n - 1, by omega⟩
    exact br_t (by decide) h
  | succ x ih =>
    intro n h9 hn ht
    obtain ⟨n, rfl⟩ : ∃ k, n = k + 1 := ⟨n - 1, by omega⟩
    refine br_f (fun y => absurd ((nI_ltI (a := x + 1) (b := 1) (by omega) (by omega)).mp y) (by omega)) ?_
    refine sn_yalv P hc Y T (x + 1) rfl (by omega) h9 (fun z => absurd z (ht (x + 1) (by omega) (Nat.le_refl _))) (fun _ => br_t rfl (fun y ey => ?_))
    rw [ey, pk_m1]
    exact ih n (by omega) (by omega) (fun t h2 h3 => ht t h2 (by omega))
theorem sn_yexA (P : sn_PI c 0 st K V S oa ca sg dp pa) (hc : c ≤ 65) (Y : sn_YS c K V S oa sg pa f_nItems f_finalIdx a_kind a_val a_stopOf a_par a_prim) (T : sn_YT f_clearAll a_typed a_tLen L) (h0 : ∀ s, ¬ sn_hid oa ca L 0 (oa s)) (bp a : Nat) (h9 : a ≤ 9) (al : sn_AL oa ca L a)
    (h : ∀ rl rb tb tl ip, post 0 (f_cap, f_hcap, f_len, nI (bp + (sn_rr K V S oa ca L a_tText (ca a)).length), nI (bp + (sn_rr K V S oa ca L a_tText (oa a)).length), f_bodyLen, f_sBodyLen, f_merge, 1, 1, nI a, f_nItems, f_finalIdx, f_fromStruct, f_baseLen, nI bp, rl, tl, f_clearAll, f_svF, f_svL, f_hCount, a_buf, a_body, a_sBody, a_typed, a_tLen, a_tText, a_kind, a_val, a_stopOf, a_par, ip, a_prim, a_stack, a_occ, a_base, rb, tb, a_svT, a_hist)) :
    ∀ m x n, x + m = a → 1 ≤ x → m < n → (∀ t, x ≤ t → t < a → ¬ sn_AL oa ca L t) → wY_expand_211 post f_cap f_hcap f_len f_caret f_sel f_bodyLen f_sBodyLen f_merge f_session f_selected f_active f_nItems f_finalIdx f_fromStruct f_baseLen (nI bp) f_rlen f_tlen f_clearAll f_svF f_svL f_hCount a_buf a_body a_sBody a_typed a_tLen a_tText a_kind a_val a_stopOf a_par a_ipos a_prim a_stack a_occ a_base a_rbuf a_tbuf a_svT a_hist n (nI x) := by
  have c0 := P.1
  intro m
  induction m with
  | zero =>
    intro x n hi h1 hn ht
    obtain ⟨n, rfl⟩ : ∃ k, n = k + 1 := ⟨n - 1, by omega⟩
    obtain rfl : x = a := by omega
    have oc : oa x < c := by
      have := al.1
      rcases sn_clo P x with z | z | z <;> omega
    have so := sn_sgx P.2.1 (show oa x ≤ c by omega)
    refine br_f (fun y => absurd ((nI_ltI (a := 9) (b := x) (by omega) (by omega)).mp y) (by omega)) ⟨vp_in_nI (by omega) (by omega), ?_⟩
    rw [nI_clamp (by omega), Y.2.2.1 x h1 h9, if_neg al.1]
    refine br_f (nI_pos (by omega)) ?_
    exact sn_ysel P hc Y T bp x rfl h1 h9 al h
  | succ m ih =>
    intro x n hi h1 hn ht
    obtain ⟨n, rfl⟩ : ∃ k, n = k + 1 := ⟨n - 1, by omega⟩
    refine br_f (fun y => absurd ((nI_ltI (a := 9) (b := x) (by omega) (by omega)).mp y) (by omega)) ⟨vp_in_nI (by omega) (by omega), ?_⟩
    have z : oa x = 1000 := by
      by_cases z : oa x = 1000
      · exact z
      · exact absurd ⟨z, h0 x⟩ (ht x (Nat.le_refl _) (by omega))
    rw [nI_clamp (by omega), Y.2.2.1 x h1 (by omega), if_pos z]
    refine br_t (by decide) (fun y ey => ?_)
    rw [ey, nI_1]
    exact ih (x + 1) n (by omega) (by omega) (by omega) (fun t h2 h3 => ht t (by omega) h3)
theorem sn_yexN (P : sn_PI c 0 st K V S oa ca sg dp pa) (hc : c ≤ 65) (h00 : oa 0 < c) (Y : sn_YS c K V S oa sg pa f_nItems f_finalIdx a_kind a_val a_stopOf a_par a_prim) (T : sn_YT f_clearAll a_typed a_tLen L) (h0 : ∀ s, ¬ sn_hid oa ca L 0 (oa s)) (bp : Nat)
    (h : ∀ rl rb tb tl ip, post 0 (f_cap, f_hcap, f_len, nI (bp + (sn_rr K V S oa ca L a_tText (oa 0)).length), nI (bp + (sn_rr K V S oa ca L a_tText (oa 0)).length), f_bodyLen, f_sBodyLen, f_merge, 0, 0, (-1), f_nItems, f_finalIdx, f_fromStruct, f_baseLen, nI bp, rl, tl, f_clearAll, f_svF, f_svL, f_hCount, a_buf, a_body, a_sBody, a_typed, a_tLen, a_tText, a_kind, a_val, a_stopOf, a_par, ip, a_prim, a_stack, a_occ, a_base, rb, tb, a_svT, a_hist)) :
    ∀ m x n, x + m = 10 → 1 ≤ x → m < n → (∀ t, x ≤ t → t ≤ 9 → ¬ sn_AL oa ca L t) → wY_expand_211 post f_cap f_hcap f_len f_caret f_sel f_bodyLen f_sBodyLen f_merge f_session f_selected f_active f_nItems f_finalIdx f_fromStruct f_baseLen (nI bp) f_rlen f_tlen f_clearAll f_svF f_svL f_hCount a_buf a_body a_sBody a_typed a_tLen a_tText a_kind a_val a_stopOf a_par a_ipos a_prim a_stack a_occ a_base a_rbuf a_tbuf a_svT a_hist n (nI x) := by
  intro m
  induction m with
  | zero =>
    intro x n hi h1 hn ht
    obtain ⟨n, rfl⟩ : ∃ k, n = k + 1 := ⟨n - 1, by omega⟩
    obtain rfl : x = 10 := by omega
    refine br_t (by decide) ?_
    exact sn_yfp P hc Y T bp h00 (fun rl rb tb tl ip => h rl rb tb tl ip)
  | succ m ih =>
    intro x n hi h1 hn ht
    obtain ⟨n, rfl⟩ : ∃ k, n = k + 1 := ⟨n - 1, by omega⟩
    refine br_f (fun y => absurd ((nI_ltI (a := 9) (b := x) (by omega) (by omega)).mp y) (by omega)) ⟨vp_in_nI (by omega) (by omega), ?_⟩
    have z : oa x = 1000 := by
      by_cases z : oa x = 1000
      · exact z
      · exact absurd ⟨z, h0 x⟩ (ht x (Nat.le_refl _) (by omega))
    rw [nI_clamp (by omega), Y.2.2.1 x h1 (by omega), if_pos z]
    refine br_t (by decide) (fun y ey => ?_)
    rw [ey, nI_1]
    exact ih (x + 1) n (by omega) (by omega) (by omega) (fun t h2 h3 => ht t (by omega) h3)
theorem sn_ystS {post : Int32 → Prop} (P : sn_PI c 0 st K V S oa ca sg dp pa) (hc : c ≤ 65) (Y : sn_YS c K V S oa sg pa f_nItems f_finalIdx a_kind a_val a_stopOf a_par a_prim) (TL : ∀ s, s ≤ 9 → sn_TL (L s) (a_typed s) (a_tLen s)) (s : Nat) (h9 : s ≤ 9)
    (h4 : s = 0 → post 4) (h0 : 1 ≤ s → oa s = 1000 → post 0) (h3 : 1 ≤ s → oa s ≠ 1000 → ¬ sn_AL oa ca L s → post 3) (h1 : 1 ≤ s → sn_AL oa ca L s → L s = -1 → post 1) (h2 : 1 ≤ s → sn_AL oa ca L s → L s ≠ -1 → post 2) : wpY_stopState post (f_cap, f_hcap, f_len, f_caret, f_sel, f_bodyLen, f_sBodyLen, f_merge, 1, f_selected, f_active, f_nItems, f_finalIdx, f_fromStruct, f_baseLen, f_baseP, f_rlen, f_tlen, 0, f_svF, f_svL, f_hCount, a_buf, a_body, a_sBody, a_typed, a_tLen, a_tText, a_kind, a_val, a_stopOf, a_par, a_ipos, a_prim, a_stack, a_occ, a_base, a_rbuf, a_tbuf, a_svT, a_hist) (nI s) := by
  have c0 := P.1
  have T := sn_TLy TL
  refine br_f (by decide) (br_f (nI_pos (by omega)) (br_t (nI_le (b := 9) h9 (by omega)) ?_))
  by_cases s0 : s = 0
  · exact br_t (by rw [s0]; rfl) (h4 s0)
  · have v10 : vp_in (nI s) 10 := vp_in_nI (by omega) (by omega)
    refine br_f (sn_ne s0 (by omega) (by omega)) ⟨v10, ?_⟩
    rw [nI_clamp (by omega), Y.2.2.1 s (by omega) h9]
    by_cases z : oa s = 1000
    · rw [if_pos z]
      exact br_f (by decide) (h0 (by omega) z)
    · rw [if_neg z]
      have oc : oa s < c ∧ K (oa s) ≠ 2 := by rcases sn_clo P s with a | a | a <;> omega
      have so := sn_sgx P.2.1 (show oa s ≤ c by omega)
      refine br_t (nI_pos' (by omega)) ⟨v10, ?_⟩
      refine sn_yhid P hc Y T 0 (oa s) rfl oc.1 oc.2 (Or.inl ⟨rfl, rfl⟩) (fun w => br_f (by decide) (h3 (by omega) z (fun q => q.2 w))) (fun w => br_t rfl ⟨v10, ?_⟩)
      rcases TL s h9 with ⟨a, b, _⟩ | ⟨m, hm, a, b, _⟩
      · exact br_t b (h1 (by omega) ⟨z, w⟩ a)
      · exact br_f (by rw [b]; decide) (h2 (by omega) ⟨z, w⟩ (by rw [a]; exact sn_nm1 (by omega)))
end SOE
section SOF
variable {K S oa ca sg dp pa st : Nat → Nat} {V : Nat → Int32} {c : Nat}
variable {f_capacity f_historyCap f_length f_caret f_selStart f_bodyLength f_undoDepth f_merge f_itemCount f_baseLength f_basePos f_activeStop f_selected f_draftCount f_depth f_readAt : Int32} {a_text a_body a_history a_itemKind a_itemValue a_openAt a_closeAt a_base a_typedLength a_typedText a_draftKind a_draftValue a_draftOpenAt a_draftCloseAt a_enclosing a_trialLength : Nat → Int32}
theorem sn_xstS {post : Int32 → Prop} (P : sn_PI c 0 st K V S oa ca sg dp pa) (XS : sn_XS c K V oa ca a_itemKind a_itemValue a_openAt a_closeAt) (hs : f_activeStop ≠ -1) (s : Nat) (h9 : s ≤ 9)
    (h4 : s = 0 → post 4) (h0 : 1 ≤ s → oa s = 1000 → post 0) (h3 : 1 ≤ s → oa s ≠ 1000 → ¬ sn_AL oa ca a_typedLength s → post 3) (h1 : 1 ≤ s → sn_AL oa ca a_typedLength s → a_typedLength s = -1 → post 1) (h2 : 1 ≤ s → sn_AL oa ca a_typedLength s → a_typedLength s ≠ -1 → post 2) : wpX_stopState post (f_capacity, f_historyCap, f_length, f_caret, f_selStart, f_bodyLength, f_undoDepth, f_merge, f_itemCount, f_baseLength, f_basePos, f_activeStop, f_selected, f_draftCount, f_depth, f_readAt, a_text, a_body, a_history, a_itemKind, a_itemValue, a_openAt, a_closeAt, a_base, a_typedLength, a_typedText, a_draftKind, a_draftValue, a_draftOpenAt, a_draftCloseAt, a_enclosing, a_trialLength) (nI s) := by
  have b := sn_clB P s
  unfold wpX_stopState
  refine sn_xins (fun z => absurd z hs) (fun _ => br_f (by decide) (br_f (nI_pos (by omega)) (br_t (nI_le (b := 9) h9 (by omega)) ?_)))
  by_cases s0 : s = 0
  · exact br_t (by rw [s0]; rfl) (h4 s0)
  · have v10 : vp_in (nI s) 10 := vp_in_nI (by omega) (by omega)
    refine br_f (sn_ne s0 (by omega) (by omega)) ⟨v10, ?_⟩
    rw [nI_clamp (by omega), XS.2.1 s h9]
    by_cases z : oa s = 1000
    · exact br_t (sn_o0 z) (h0 (by omega) z)
    · refine br_f (fun y => z ((sn_oM b.1).mp y)) ?_
      refine sn_xalv P XS s rfl h9 (fun w => br_f (by decide) ⟨v10, ?_⟩) (fun w => br_t rfl (h3 (by omega) z w))
      by_cases l : a_typedLength s = -1
      · exact br_t l (h1 (by omega) w l)
      · exact br_f l (h2 (by omega) w l)
end SOF
end
section
section SOG
/-! undo, stopState, stopPos, next, prev -/
theorem sn_posB {c : Nat} {st K : Nat → Nat} {V : Nat → Int32} {S oa ca sg dp pa : Nat → Nat} {L T : Nat → Int32} {bl bp l x : Nat} (P : sn_PI c 0 st K V S oa ca sg dp pa) (hb : bp ≤ bl) (len : l = bl + (sn_rr K V S oa ca L (fun _ => 0) c).length) (hx : x ≤ c) : bp + (sn_rr K V S oa ca L T x).length ≤ l := by
  have a := sn_rrM' (K := K) (V := V) (S := S) (oa := oa) (ca := ca) (L := L) (T := T) hx
  have b := sn_rrLC (V := V) (L := L) (L' := L) (T := fun _ => 0) (T' := T) (x := c) P (fun _ _ => rfl) (Nat.le_refl c)
  omega
theorem sn_alO {c : Nat} {st K : Nat → Nat} {V : Nat → Int32} {S oa ca sg dp pa : Nat → Nat} {L : Nat → Int32} {s : Nat} (P : sn_PI c 0 st K V S oa ca sg dp pa) (h1 : 1 ≤ s) (al : sn_AL oa ca L s) : oa s < c ∧ ca s ≤ c := by
  have := al.1
  have h0 := P.1
  rcases sn_clo P s with a | a | a <;> omega

theorem i_vc_next {k : Nat} {u : SX} {v : SY} (I : i_Rel k u v) (hk : k + 3 ≤ 1538) : wpX_next (fun r u' => wpY_next (fun r' v' => r' = r ∧ i_Rel (k + 3) u' v') v) u := by
  refine sn_elim (motive := fun u v => wpX_next (fun r u' => wpY_next (fun r' v' => r' = r ∧ i_Rel (k + 3) u' v') v) u) ?_ I
  intro cap hc dep n sb bl bp i c d st K V S oa ca sg dp pa f_length f_caret f_selStart f_merge f_itemCount f_activeStop f_selected f_draftCount f_depth f_readAt y_session y_selected y_nItems y_finalIdx y_fromStruct y_rlen y_tlen y_svF y_svL a_text a_body a_history a_itemKind a_itemValue a_openAt a_closeAt a_base a_typedLength a_typedText a_draftKind a_draftValue a_draftOpenAt a_draftCloseAt a_enclosing a_trialLength b_sBody b_typed b_tLen b_kind b_val b_stopOf b_par b_ipos b_prim b_stack b_occ b_rbuf b_tbuf b_svT b_hist R
  have J : i_Rel (k + 3) (nI cap, nI hc, f_length, f_caret, f_selStart, nI n, nI dep, f_merge, f_itemCount, nI bl, nI bp, f_activeStop, f_selected, f_draftCount, f_depth, f_readAt, a_text, a_body, a_history, a_itemKind, a_itemValue, a_openAt, a_closeAt, a_base, a_typedLength, a_typedText, a_draftKind, a_draftValue, a_draftOpenAt, a_draftCloseAt, a_enclosing, a_trialLength) (nI cap, nI hc, f_length, f_caret, f_selStart, nI n, nI sb, f_merge, y_session, y_selected, f_activeStop, y_nItems, y_finalIdx, y_fromStruct, nI bl, nI bp, y_rlen, y_tlen, 0, y_svF, y_svL, nI dep, a_text, a_body, b_sBody, b_typed, b_tLen, a_typedText, b_kind, b_val, b_stopOf, b_par, b_ipos, b_prim, b_stack, b_occ, a_base, b_rbuf, b_tbuf, b_svT, b_hist) := sn_mk R
  obtain ⟨R1, R2, ⟨b1, b2, l, q, el, eq, hl, hlc, hS⟩, R4⟩ := R
  unfold wpX_next
  rcases hS with ⟨ea, es⟩ | ⟨es, e2, G, a, ea, a1, a9, oc, nh, hs, len⟩
  · subst ea es
    exact sn_xins (fun _ => br_t rfl (br_t rfl ⟨rfl, J⟩)) (fun z => absurd rfl z)
  · subst ea es
    obtain ⟨P, c65, h00⟩ := sn_GP R1.2.2.2.2.2.2.1 G
    have XS := G.2.2.1
    have YS := G.2.2.2
    have YT := sn_TLy R2
    have LL := sn_YTL YT
    refine sn_xins (fun z => absurd z (sn_nm1 (by omega))) (fun _ => br_f (by decide) ?_)
    refine sn_xgo P c65 h00 XS LL a_typedText bp a rfl a9 (fun b hb1 hb9 al ht => ?_) (fun ht => ?_)
    · have ao := sn_alO P (by omega) al
      refine br_f (by decide) (fun y ey => ?_)
      rw [ey, nI_1]
      refine ⟨b - a, sn_ynA P c65 YS YT bp b hb9 al (fun rl rb tb tl ip => ⟨rfl, ?_⟩) (b - (a + 1)) (a + 1) (b - a) (by omega) (by omega) (by omega) (fun t h1 h2 => ht t (by omega) h2)⟩
      exact sn_mk ⟨R1, R2, ⟨Or.inr rfl, Or.inr rfl, l, _, el, rfl, sn_posB P R1.2.2.2.2.2.2.2.1 len ao.2, hlc, Or.inr ⟨rfl, rfl, G, b, rfl, by omega, hb9, ao.1, al.2, fun z => absurd z (by decide), len⟩⟩, R4⟩
    · refine br_f (by decide) (fun y ey => ?_)
      rw [ey, nI_1]
      refine ⟨10 - a, sn_ynN P c65 h00 YS YT bp (fun rl rb tb tl ip => ⟨rfl, ?_⟩) (10 - (a + 1)) (a + 1) (10 - a) (by omega) (by omega) (by omega) (fun t h1 h2 => ht t (by omega) h2)⟩
      exact sn_mk ⟨R1, R2, ⟨b1, Or.inl rfl, l, _, el, rfl, sn_posB P R1.2.2.2.2.2.2.2.1 len (by omega), hlc, Or.inl ⟨rfl, rfl⟩⟩, R4⟩
theorem i_vc_prev {k : Nat} {u : SX} {v : SY} (I : i_Rel k u v) (hk : k + 3 ≤ 1538) : wpX_prev (fun r u' => wpY_prev (fun r' v' => r' = r ∧ i_Rel (k + 3) u' v') v) u := by
  refine sn_elim (motive := fun u v => wpX_prev (fun r u' => wpY_prev (fun r' v' => r' = r ∧ i_Rel (k + 3) u' v') v) u) ?_ I
  intro cap hc dep n sb bl bp i c d st K V S oa ca sg dp pa f_length f_caret f_selStart f_merge f_itemCount f_activeStop f_selected f_draftCount f_depth f_readAt y_session y_selected y_nItems y_finalIdx y_fromStruct y_rlen y_tlen y_svF y_svL a_text a_body a_history a_itemKind a_itemValue a_openAt a_closeAt a_base a_typedLength a_typedText a_draftKind a_draftValue a_draftOpenAt a_draftCloseAt a_enclosing a_trialLength b_sBody b_typed b_tLen b_kind b_val b_stopOf b_par b_ipos b_prim b_stack b_occ b_rbuf b_tbuf b_svT b_hist R
  have J : i_Rel (k + 3) (nI cap, nI hc, f_length, f_caret, f_selStart, nI n, nI dep, f_merge, f_itemCount, nI bl, nI bp, f_activeStop, f_selected, f_draftCount, f_depth, f_readAt, a_text, a_body, a_history, a_itemKind, a_itemValue, a_openAt, a_closeAt, a_base, a_typedLength, a_typedText, a_draftKind, a_draftValue, a_draftOpenAt, a_draftCloseAt, a_enclosing, a_trialLength) (nI cap, nI hc, f_length, f_caret, f_selStart, nI n, nI sb, f_merge, y_session, y_selected, f_activeStop, y_nItems, y_finalIdx, y_fromStruct, nI bl, nI bp, y_rlen, y_tlen, 0, y_svF, y_svL, nI dep, a_text, a_body, b_sBody, b_typed, b_tLen, a_typedText, b_kind, b_val, b_stopOf, b_par, b_ipos, b_prim, b_stack, b_occ, a_base, b_rbuf, b_tbuf, b_svT, b_hist) := sn_mk R
  obtain ⟨R1, R2, ⟨b1, b2, l, q, el, eq, hl, hlc, hS⟩, R4⟩ := R
  unfold wpX_prev
  rcases hS with ⟨ea, es⟩ | ⟨es, e2, G, a, ea, a1, a9, oc, nh, hs, len⟩
  · subst ea es
    exact sn_xins (fun _ => br_t rfl (br_t rfl ⟨rfl, J⟩)) (fun z => absurd rfl z)
  · subst ea es
    obtain ⟨P, c65, h00⟩ := sn_GP R1.2.2.2.2.2.2.1 G
    have XS := G.2.2.1
    have YS := G.2.2.2
    have YT := sn_TLy R2
    have LL := sn_YTL YT
    refine sn_xins (fun z => absurd z (sn_nm1 (by omega))) (fun _ => br_f (by decide) ?_)
    refine sn_xbef P XS a rfl a1 a9 (fun b hb1 hb9 al ht => ?_) (fun ht => ?_)
    · have ao := sn_alO P (by omega) al
      refine br_f (sn_nm1 (by omega)) ?_
      refine sn_xsel P c65 XS LL a_typedText bp b rfl hb1 (by omega) ao.1 ?_
      refine br_f (by decide) (fun y ey => ?_)
      rw [ey, sn_sb a 1 a1 rfl]
      refine ⟨a - b, sn_ypA P c65 YS YT bp b hb1 al (fun rl rb tb tl ip => ⟨rfl, ?_⟩) (a - 1 - b) (a - 1) (a - b) (by omega) (by omega) (by omega) (fun t h1 h2 => ht t h1 (by omega))⟩
      exact sn_mk ⟨R1, R2, ⟨Or.inr rfl, Or.inr rfl, l, _, el, rfl, sn_posB P R1.2.2.2.2.2.2.2.1 len ao.2, hlc, Or.inr ⟨rfl, rfl, G, b, rfl, hb1, by omega, ao.1, al.2, fun z => absurd z (by decide), len⟩⟩, R4⟩
    · refine br_t rfl (br_f (by decide) (fun y ey => ?_))
      rw [ey, sn_sb a 1 a1 rfl]
      exact ⟨a, sn_ypN P c65 YS YT ⟨rfl, J⟩ (a - 1) a (by omega) (by omega) (fun t h1 h2 => ht t h1 (by omega))⟩
theorem i_vc_stopState {k : Nat} {u : SX} {v : SY} (I : i_Rel k u v) (hk : k + 3 ≤ 1538) (v1 : Int32) : wpX_stopState (fun r => wpY_stopState (fun r' => r' = r ∧ i_Rel (k + 3) u v) v v1) u v1 := by
  refine sn_elim (motive := fun u v => wpX_stopState (fun r => wpY_stopState (fun r' => r' = r ∧ i_Rel (k + 3) u v) v v1) u v1) ?_ I
  intro cap hc dep n sb bl bp i c d st K V S oa ca sg dp pa f_length f_caret f_selStart f_merge f_itemCount f_activeStop f_selected f_draftCount f_depth f_readAt y_session y_selected y_nItems y_finalIdx y_fromStruct y_rlen y_tlen y_svF y_svL a_text a_body a_history a_itemKind a_itemValue a_openAt a_closeAt a_base a_typedLength a_typedText a_draftKind a_draftValue a_draftOpenAt a_draftCloseAt a_enclosing a_trialLength b_sBody b_typed b_tLen b_kind b_val b_stopOf b_par b_ipos b_prim b_stack b_occ b_rbuf b_tbuf b_svT b_hist R
  have J : i_Rel (k + 3) (nI cap, nI hc, f_length, f_caret, f_selStart, nI n, nI dep, f_merge, f_itemCount, nI bl, nI bp, f_activeStop, f_selected, f_draftCount, f_depth, f_readAt, a_text, a_body, a_history, a_itemKind, a_itemValue, a_openAt, a_closeAt, a_base, a_typedLength, a_typedText, a_draftKind, a_draftValue, a_draftOpenAt, a_draftCloseAt, a_enclosing, a_trialLength) (nI cap, nI hc, f_length, f_caret, f_selStart, nI n, nI sb, f_merge, y_session, y_selected, f_activeStop, y_nItems, y_finalIdx, y_fromStruct, nI bl, nI bp, y_rlen, y_tlen, 0, y_svF, y_svL, nI dep, a_text, a_body, b_sBody, b_typed, b_tLen, a_typedText, b_kind, b_val, b_stopOf, b_par, b_ipos, b_prim, b_stack, b_occ, a_base, b_rbuf, b_tbuf, b_svT, b_hist) := sn_mk R
  obtain ⟨R1, R2, ⟨b1, b2, l, q, el, eq, hl, hlc, hS⟩, R4⟩ := R
  rcases hS with ⟨ea, es⟩ | ⟨es, e2, G, a, ea, a1, a9, oc, nh, hs, len⟩
  · subst ea es
    unfold wpX_stopState
    exact sn_xins (fun _ => br_t rfl (br_t rfl ⟨rfl, J⟩)) (fun z => absurd rfl z)
  · subst ea es
    obtain ⟨P, c65, h00⟩ := sn_GP R1.2.2.2.2.2.2.1 G
    have XS := G.2.2.1
    have YS := G.2.2.2
    have YT := sn_TLy R2
    have LL := sn_YTL YT
    by_cases z : v1 < 0
    · unfold wpX_stopState
      exact sn_xins (fun z => absurd z (sn_nm1 (by omega))) (fun _ => br_f (by decide) (br_t z (br_f (by decide) (br_t z ⟨rfl, J⟩))))
    · obtain ⟨s, hs1, rfl⟩ := nI_of z
      by_cases h9 : s ≤ 9
      · refine sn_xstS P XS (sn_nm1 (by omega)) s h9 (fun e => ?_) (fun h1 e => ?_) (fun h1 e f => ?_) (fun h1 e f => ?_) (fun h1 e f => ?_)
        · exact sn_ystS P c65 YS R2 s h9 (fun _ => ⟨rfl, J⟩) (fun w => absurd e (by omega)) (fun w => absurd e (by omega)) (fun w => absurd e (by omega)) (fun w => absurd e (by omega))
        · exact sn_ystS P c65 YS R2 s h9 (fun w => absurd h1 (by omega)) (fun _ _ => ⟨rfl, J⟩) (fun _ w => absurd e w) (fun _ w => absurd e w.1) (fun _ w => absurd e w.1)
        · exact sn_ystS P c65 YS R2 s h9 (fun w => absurd h1 (by omega)) (fun _ w => absurd w e) (fun _ _ _ => ⟨rfl, J⟩) (fun _ w => absurd w f) (fun _ w => absurd w f)
        · exact sn_ystS P c65 YS R2 s h9 (fun w => absurd h1 (by omega)) (fun _ w => absurd w e.1) (fun _ _ w => absurd e w) (fun _ _ _ => ⟨rfl, J⟩) (fun _ _ w => absurd f w)
        · exact sn_ystS P c65 YS R2 s h9 (fun w => absurd h1 (by omega)) (fun _ w => absurd w e.1) (fun _ _ w => absurd e w) (fun _ _ w => absurd w f) (fun _ _ _ => ⟨rfl, J⟩)
      · have n9 : ¬ nI s ≤ (9 : Int32) := fun w => h9 ((nI_leI (a := s) (b := 9) (by omega) (by omega)).mp w)
        unfold wpX_stopState
        exact sn_xins (fun z => absurd z (sn_nm1 (by omega))) (fun _ => br_f (by decide) (br_f z (br_f n9 (br_f (by decide) (br_f z (br_f n9 ⟨rfl, J⟩))))))
end SOG
end
section
section SOH
variable {f_cap f_hcap f_len f_caret f_sel f_bodyLen f_sBodyLen f_merge f_session f_selected f_active f_nItems f_finalIdx f_fromStruct f_baseLen f_baseP f_rlen f_tlen f_clearAll f_svF f_svL f_hCount : Int32} {a_buf a_body a_sBody a_typed a_tLen a_tText a_kind a_val a_stopOf a_par a_ipos a_prim a_stack a_occ a_base a_rbuf a_tbuf a_svT a_hist : Nat → Int32}
theorem sn_yspR {post : Int32 → SY → Prop} {x0 x1 : Int32} (r0 : Int32) (hr : r0 = 0 ∨ r0 = 3) (hst : ∀ post' : Int32 → Prop, post' r0 → wpY_stopState post' (f_cap, f_hcap, f_len, f_caret, f_sel, f_bodyLen, f_sBodyLen, f_merge, f_session, f_selected, f_active, f_nItems, f_finalIdx, f_fromStruct, f_baseLen, f_baseP, f_rlen, f_tlen, f_clearAll, f_svF, f_svL, f_hCount, a_buf, a_body, a_sBody, a_typed, a_tLen, a_tText, a_kind, a_val, a_stopOf, a_par, a_ipos, a_prim, a_stack, a_occ, a_base, a_rbuf, a_tbuf, a_svT, a_hist) x0) (h : post (-1) (f_cap, f_hcap, f_len, f_caret, f_sel, f_bodyLen, f_sBodyLen, f_merge, f_session, f_selected, f_active, f_nItems, f_finalIdx, f_fromStruct, f_baseLen, f_baseP, f_rlen, f_tlen, f_clearAll, f_svF, f_svL, f_hCount, a_buf, a_body, a_sBody, a_typed, a_tLen, a_tText, a_kind, a_val, a_stopOf, a_par, a_ipos, a_prim, a_stack, a_occ, a_base, a_rbuf, a_tbuf, a_svT, a_hist)) : wpY_stopPos post (f_cap, f_hcap, f_len, f_caret, f_sel, f_bodyLen, f_sBodyLen, f_merge, f_session, f_selected, f_active, f_nItems, f_finalIdx, f_fromStruct, f_baseLen, f_baseP, f_rlen, f_tlen, f_clearAll, f_svF, f_svL, f_hCount, a_buf, a_body, a_sBody, a_typed, a_tLen, a_tText, a_kind, a_val, a_stopOf, a_par, a_ipos, a_prim, a_stack, a_occ, a_base, a_rbuf, a_tbuf, a_svT, a_hist) x0 x1 := by
  by_cases a : x1 < 0
  · exact br_t a h
  · by_cases b : x1 ≤ 1
    · refine br_f a (br_t b (hst _ ?_))
      rcases hr with e | e
      · exact br_t e h
      · exact br_f (by rw [e]; decide) (br_t e h)
    · exact br_f a (br_f b h)
theorem sn_yspB {post : Int32 → SY → Prop} {x0 x1 : Int32} (hw : x1 < 0 ∨ (¬ x1 < 0 ∧ ¬ x1 ≤ 1)) (h : post (-1) (f_cap, f_hcap, f_len, f_caret, f_sel, f_bodyLen, f_sBodyLen, f_merge, f_session, f_selected, f_active, f_nItems, f_finalIdx, f_fromStruct, f_baseLen, f_baseP, f_rlen, f_tlen, f_clearAll, f_svF, f_svL, f_hCount, a_buf, a_body, a_sBody, a_typed, a_tLen, a_tText, a_kind, a_val, a_stopOf, a_par, a_ipos, a_prim, a_stack, a_occ, a_base, a_rbuf, a_tbuf, a_svT, a_hist)) : wpY_stopPos post (f_cap, f_hcap, f_len, f_caret, f_sel, f_bodyLen, f_sBodyLen, f_merge, f_session, f_selected, f_active, f_nItems, f_finalIdx, f_fromStruct, f_baseLen, f_baseP, f_rlen, f_tlen, f_clearAll, f_svF, f_svL, f_hCount, a_buf, a_body, a_sBody, a_typed, a_tLen, a_tText, a_kind, a_val, a_stopOf, a_par, a_ipos, a_prim, a_stack, a_occ, a_base, a_rbuf, a_tbuf, a_svT, a_hist) x0 x1 := by
  rcases hw with a | ⟨a, b⟩
  · exact br_t a h
  · exact br_f a (br_f b h)
end SOH
section SOI
variable {f_capacity f_historyCap f_length f_caret f_selStart f_bodyLength f_undoDepth f_merge f_itemCount f_baseLength f_basePos f_activeStop f_selected f_draftCount f_depth f_readAt : Int32} {a_text a_body a_history a_itemKind a_itemValue a_openAt a_closeAt a_base a_typedLength a_typedText a_draftKind a_draftValue a_draftOpenAt a_draftCloseAt a_enclosing a_trialLength : Nat → Int32}
theorem sn_xspR {post : Int32 → Prop} {x0 x1 : Int32} (r0 : Int32) (hr : r0 = 0 ∨ r0 = 3) (hst : ∀ post' : Int32 → Prop, post' r0 → wpX_stopState post' (f_capacity, f_historyCap, f_length, f_caret, f_selStart, f_bodyLength, f_undoDepth, f_merge, f_itemCount, f_baseLength, f_basePos, f_activeStop, f_selected, f_draftCount, f_depth, f_readAt, a_text, a_body, a_history, a_itemKind, a_itemValue, a_openAt, a_closeAt, a_base, a_typedLength, a_typedText, a_draftKind, a_draftValue, a_draftOpenAt, a_draftCloseAt, a_enclosing, a_trialLength) x0) (h : post (-1)) : wpX_stopPos post (f_capacity, f_historyCap, f_length, f_caret, f_selStart, f_bodyLength, f_undoDepth, f_merge, f_itemCount, f_baseLength, f_basePos, f_activeStop, f_selected, f_draftCount, f_depth, f_readAt, a_text, a_body, a_history, a_itemKind, a_itemValue, a_openAt, a_closeAt, a_base, a_typedLength, a_typedText, a_draftKind, a_draftValue, a_draftOpenAt, a_draftCloseAt, a_enclosing, a_trialLength) x0 x1 := by
  unfold wpX_stopPos
  refine hst _ ?_
  rcases hr with e | e
  · exact br_t e h
  · exact br_f (by rw [e]; decide) (br_t e h)
theorem sn_xspB {post : Int32 → Prop} {x0 x1 : Int32} (hw : x1 < 0 ∨ (¬ x1 < 0 ∧ ¬ x1 ≤ 1)) (hst : ∀ post' : Int32 → Prop, (∀ r, post' r) → wpX_stopState post' (f_capacity, f_historyCap, f_length, f_caret, f_selStart, f_bodyLength, f_undoDepth, f_merge, f_itemCount, f_baseLength, f_basePos, f_activeStop, f_selected, f_draftCount, f_depth, f_readAt, a_text, a_body, a_history, a_itemKind, a_itemValue, a_openAt, a_closeAt, a_base, a_typedLength, a_typedText, a_draftKind, a_draftValue, a_draftOpenAt, a_draftCloseAt, a_enclosing, a_trialLength) x0) (h : post (-1)) : wpX_stopPos post (f_capacity, f_historyCap, f_length, f_caret, f_selStart, f_bodyLength, f_undoDepth, f_merge, f_itemCount, f_baseLength, f_basePos, f_activeStop, f_selected, f_draftCount, f_depth, f_readAt, a_text, a_body, a_history, a_itemKind, a_itemValue, a_openAt, a_closeAt, a_base, a_typedLength, a_typedText, a_draftKind, a_draftValue, a_draftOpenAt, a_draftCloseAt, a_enclosing, a_trialLength) x0 x1 := by
  unfold wpX_stopPos
  refine hst _ (fun r => ?_)
  refine br_c (fun _ => h) (fun _ => br_c (fun _ => h) (fun _ => ?_))
  rcases hw with a | ⟨a, b⟩
  · exact br_t a h
  · exact br_f a (br_f b h)
end SOI
section SOJ
theorem i_vc_stopPos {k : Nat} {u : SX} {v : SY} (I : i_Rel k u v) (hk : k + 3 ≤ 1538) (v1 : Int32) (v2 : Int32) : wpX_stopPos (fun r => wpY_stopPos (fun r' v' => r' = r ∧ i_Rel (k + 3) u v') v v1 v2) u v1 v2 := by
  refine sn_elim (motive := fun u v => wpX_stopPos (fun r => wpY_stopPos (fun r' v' => r' = r ∧ i_Rel (k + 3) u v') v v1 v2) u v1 v2) ?_ I
  intro cap hc dep n sb bl bp i c d st K V S oa ca sg dp pa f_length f_caret f_selStart f_merge f_itemCount f_activeStop f_selected f_draftCount f_depth f_readAt y_session y_selected y_nItems y_finalIdx y_fromStruct y_rlen y_tlen y_svF y_svL a_text a_body a_history a_itemKind a_itemValue a_openAt a_closeAt a_base a_typedLength a_typedText a_draftKind a_draftValue a_draftOpenAt a_draftCloseAt a_enclosing a_trialLength b_sBody b_typed b_tLen b_kind b_val b_stopOf b_par b_ipos b_prim b_stack b_occ b_rbuf b_tbuf b_svT b_hist R
  have J : i_Rel (k + 3) (nI cap, nI hc, f_length, f_caret, f_selStart, nI n, nI dep, f_merge, f_itemCount, nI bl, nI bp, f_activeStop, f_selected, f_draftCount, f_depth, f_readAt, a_text, a_body, a_history, a_itemKind, a_itemValue, a_openAt, a_closeAt, a_base, a_typedLength, a_typedText, a_draftKind, a_draftValue, a_draftOpenAt, a_draftCloseAt, a_enclosing, a_trialLength) (nI cap, nI hc, f_length, f_caret, f_selStart, nI n, nI sb, f_merge, y_session, y_selected, f_activeStop, y_nItems, y_finalIdx, y_fromStruct, nI bl, nI bp, y_rlen, y_tlen, 0, y_svF, y_svL, nI dep, a_text, a_body, b_sBody, b_typed, b_tLen, a_typedText, b_kind, b_val, b_stopOf, b_par, b_ipos, b_prim, b_stack, b_occ, a_base, b_rbuf, b_tbuf, b_svT, b_hist) := sn_mk R
  have JJ : ∀ rl rb tb tl ip, i_Rel (k + 3) (nI cap, nI hc, f_length, f_caret, f_selStart, nI n, nI dep, f_merge, f_itemCount, nI bl, nI bp, f_activeStop, f_selected, f_draftCount, f_depth, f_readAt, a_text, a_body, a_history, a_itemKind, a_itemValue, a_openAt, a_closeAt, a_base, a_typedLength, a_typedText, a_draftKind, a_draftValue, a_draftOpenAt, a_draftCloseAt, a_enclosing, a_trialLength) (nI cap, nI hc, f_length, f_caret, f_selStart, nI n, nI sb, f_merge, y_session, y_selected, f_activeStop, y_nItems, y_finalIdx, y_fromStruct, nI bl, nI bp, rl, tl, 0, y_svF, y_svL, nI dep, a_text, a_body, b_sBody, b_typed, b_tLen, a_typedText, b_kind, b_val, b_stopOf, b_par, ip, b_prim, b_stack, b_occ, a_base, rb, tb, b_svT, b_hist) := fun rl rb tb tl ip => sn_mk R
  obtain ⟨R1, R2, ⟨b1, b2, l, q, el, eq, hl, hlc, hS⟩, R4⟩ := R
  rcases hS with ⟨ea, es⟩ | ⟨es, e2, G, a, ea, a1, a9, oc, nh, hs, len⟩
  · subst ea es
    refine sn_xspR 0 (Or.inl rfl) (fun post' hp => ?_) (sn_yspR 0 (Or.inl rfl) (fun post' hp => br_t rfl hp) ⟨rfl, J⟩)
    unfold wpX_stopState
    exact sn_xins (fun _ => br_t rfl hp) (fun z => absurd rfl z)
  · subst ea es
    obtain ⟨P, c65, h00⟩ := sn_GP R1.2.2.2.2.2.2.1 G
    have XS := G.2.2.1
    have YS := G.2.2.2
    have YT := sn_TLy R2
    have LL := sn_YTL YT
    have na : nI a ≠ -1 := sn_nm1 (by omega)
    by_cases z : v1 < 0
    · refine sn_xspR 0 (Or.inl rfl) (fun post' hp => ?_) (sn_yspR 0 (Or.inl rfl) (fun post' hp => br_f (by decide) (br_t z hp)) ⟨rfl, J⟩)
      unfold wpX_stopState
      exact sn_xins (fun w => absurd w na) (fun _ => br_f (by decide) (br_t z hp))
    · obtain ⟨s, hs1, rfl⟩ := nI_of z
      by_cases h9 : s ≤ 9
      · by_cases w1 : v2 < 0
        · exact sn_xspB (Or.inl w1) (fun post' hp => sn_xstS P XS na s h9 (fun _ => hp _) (fun _ _ => hp _) (fun _ _ _ => hp _) (fun _ _ _ => hp _) (fun _ _ _ => hp _)) (sn_yspB (Or.inl w1) ⟨rfl, J⟩)
        · by_cases w2 : v2 ≤ 1
          · by_cases s0 : s = 0
            · have k3 := sn_clo P 0
              have h0 := P.1
              have o0 : a_openAt 0 = nI (oa 0) := by rw [XS.2.1 0 (by omega), sn_o1 (by omega)]
              have c0 : a_closeAt 0 = nI (oa 0) := by
                rw [XS.2.2 0 (by omega), sn_o1 (by omega)]
                congr 1
                omega
              subst s0
              have Yp : wpY_stopPos (fun r' v' => r' = nI (bp + (sn_rr K V S oa ca a_typedLength a_typedText (oa 0)).length) ∧ i_Rel (k + 3) (nI cap, nI hc, f_length, f_caret, f_selStart, nI n, nI dep, f_merge, f_itemCount, nI bl, nI bp, nI a, f_selected, f_draftCount, f_depth, f_readAt, a_text, a_body, a_history, a_itemKind, a_itemValue, a_openAt, a_closeAt, a_base, a_typedLength, a_typedText, a_draftKind, a_draftValue, a_draftOpenAt, a_draftCloseAt, a_enclosing, a_trialLength) v') (nI cap, nI hc, f_length, f_caret, f_selStart, nI n, nI sb, f_merge, 1, y_selected, nI a, y_nItems, y_finalIdx, y_fromStruct, nI bl, nI bp, y_rlen, y_tlen, 0, y_svF, y_svL, nI dep, a_text, a_body, b_sBody, b_typed, b_tLen, a_typedText, b_kind, b_val, b_stopOf, b_par, b_ipos, b_prim, b_stack, b_occ, a_base, b_rbuf, b_tbuf, b_svT, b_hist) (nI 0) v2 := by
                refine br_f w1 (br_t w2 (sn_ystS P c65 YS R2 0 (by omega) (fun _ => br_f (by decide) (br_f (by decide) (br_t rfl ?_))) (fun w => absurd w (by omega)) (fun w => absurd w (by omega)) (fun w => absurd w (by omega)) (fun w => absurd w (by omega))))
                exact sn_yfp P c65 YS YT bp h00 (fun rl rb tb tl ip => ⟨rfl, JJ rl rb tb tl ip⟩)
              unfold wpX_stopPos
              refine sn_xstS P XS na 0 (by omega) (fun _ => br_f (by decide) (br_f (by decide) (br_f w1 (br_t w2 ?_)))) (fun w => absurd w (by omega)) (fun w => absurd w (by omega)) (fun w => absurd w (by omega)) (fun w => absurd w (by omega))
              have v10 : vp_in (nI 0) 10 := vp_in_nI (by omega) (by omega)
              by_cases w0 : v2 = 0
              · refine br_t w0 ⟨v10, ?_⟩
                exact sn_xpos P c65 XS LL a_typedText bp (oa 0) o0 (by omega) Yp
              · refine br_f w0 ⟨v10, ?_⟩
                exact sn_xpos P c65 XS LL a_typedText bp (oa 0) c0 (by omega) Yp
            · have h0 := P.1
              have AL : sn_AL oa ca a_typedLength s → ∀ r0 : Int32, ¬ r0 = 0 → ¬ r0 = 3 → (∀ post' : Int32 → Prop, post' r0 → wpX_stopState post' (nI cap, nI hc, f_length, f_caret, f_selStart, nI n, nI dep, f_merge, f_itemCount, nI bl, nI bp, nI a, f_selected, f_draftCount, f_depth, f_readAt, a_text, a_body, a_history, a_itemKind, a_itemValue, a_openAt, a_closeAt, a_base, a_typedLength, a_typedText, a_draftKind, a_draftValue, a_draftOpenAt, a_draftCloseAt, a_enclosing, a_trialLength) (nI s)) → (∀ post' : Int32 → Prop, post' r0 → wpY_stopState post' (nI cap, nI hc, f_length, f_caret, f_selStart, nI n, nI sb, f_merge, 1, y_selected, nI a, y_nItems, y_finalIdx, y_fromStruct, nI bl, nI bp, y_rlen, y_tlen, 0, y_svF, y_svL, nI dep, a_text, a_body, b_sBody, b_typed, b_tLen, a_typedText, b_kind, b_val, b_stopOf, b_par, b_ipos, b_prim, b_stack, b_occ, a_base, b_rbuf, b_tbuf, b_svT, b_hist) (nI s)) → wpX_stopPos (fun r => wpY_stopPos (fun r' v' => r' = r ∧ i_Rel (k + 3) (nI cap, nI hc, f_length, f_caret, f_selStart, nI n, nI dep, f_merge, f_itemCount, nI bl, nI bp, nI a, f_selected, f_draftCount, f_depth, f_readAt, a_text, a_body, a_history, a_itemKind, a_itemValue, a_openAt, a_closeAt, a_base, a_typedLength, a_typedText, a_draftKind, a_draftValue, a_draftOpenAt, a_draftCloseAt, a_enclosing, a_trialLength) v') (nI cap, nI hc, f_length, f_caret, f_selStart, nI n, nI sb, f_merge, 1, y_selected, nI a, y_nItems, y_finalIdx, y_fromStruct, nI bl, nI bp, y_rlen, y_tlen, 0, y_svF, y_svL, nI dep, a_text, a_body, b_sBody, b_typed, b_tLen, a_typedText, b_kind, b_val, b_stopOf, b_par, b_ipos, b_prim, b_stack, b_occ, a_base, b_rbuf, b_tbuf, b_svT, b_hist) (nI s) v2) (nI cap, nI hc, f_length, f_caret, f_selStart, nI n, nI dep, f_merge, f_itemCount, nI bl, nI bp, nI a, f_selected, f_draftCount, f_depth, f_readAt, a_text, a_body, a_history, a_itemKind, a_itemValue, a_openAt, a_closeAt, a_base, a_typedLength, a_typedText, a_draftKind, a_draftValue, a_draftOpenAt, a_draftCloseAt, a_enclosing, a_trialLength) (nI s) v2 := by
                intro al r0 n0 n3 hX hY
                have ao := sn_alO P (by omega) al
                have bb := sn_clB P s
                have n1000 : oa s ≠ 1000 := al.1
                have ss : ¬ nI s = 0 := sn_ne s0 (by omega) (by omega)
                have cs : (nI s).toNatClampNeg = s := nI_clamp (by omega)
                have v10 : vp_in (nI s) 10 := vp_in_nI (by omega) (by omega)
                unfold wpX_stopPos
                refine hX _ (br_f n0 (br_f n3 (br_f w1 (br_t w2 ?_))))
                by_cases w0 : v2 = 0
                · refine br_t w0 ⟨v10, ?_⟩
                  rw [cs]
                  refine sn_xpos P c65 XS LL a_typedText bp (oa s) (by rw [XS.2.1 s h9, sn_o1 (by omega)]) (by omega) ?_
                  refine br_f w1 (br_t w2 (hY _ (br_f n0 (br_f n3 (br_f ss (br_t w0 ?_))))))
                  exact sn_yst P c65 YS YT bp s rfl (by omega) h9 ao.1 al.2 (fun rl rb tb tl ip => ⟨rfl, JJ rl rb tb tl ip⟩)
                · refine br_f w0 ⟨v10, ?_⟩
                  rw [cs]
                  refine sn_xpos P c65 XS LL a_typedText bp (ca s) (by rw [XS.2.2 s h9, sn_o1 (by omega)]) (by omega) ?_
                  refine br_f w1 (br_t w2 (hY _ (br_f n0 (br_f n3 (br_f ss (br_f w0 ?_))))))
                  exact sn_yen P c65 YS YT bp s rfl (by omega) h9 ao.1 al.2 (fun rl rb tb tl ip => ⟨rfl, JJ rl rb tb tl ip⟩)
              by_cases e : oa s = 1000
              · exact sn_xspR 0 (Or.inl rfl) (fun post' hp => sn_xstS P XS na s h9 (fun w => absurd w s0) (fun _ _ => hp) (fun _ w => absurd e w) (fun _ w => absurd e w.1) (fun _ w => absurd e w.1))
                  (sn_yspR 0 (Or.inl rfl) (fun post' hp => sn_ystS P c65 YS R2 s h9 (fun w => absurd w s0) (fun _ _ => hp) (fun _ w => absurd e w) (fun _ w => absurd e w.1) (fun _ w => absurd e w.1)) ⟨rfl, J⟩)
              · by_cases al : sn_AL oa ca a_typedLength s
                · by_cases f : a_typedLength s = -1
                  · exact AL al 1 (by decide) (by decide) (fun post' hp => sn_xstS P XS na s h9 (fun w => absurd w s0) (fun _ w => absurd w e) (fun _ _ w => absurd al w) (fun _ _ _ => hp) (fun _ _ w => absurd f w))
                      (fun post' hp => sn_ystS P c65 YS R2 s h9 (fun w => absurd w s0) (fun _ w => absurd w e) (fun _ _ w => absurd al w) (fun _ _ _ => hp) (fun _ _ w => absurd f w))
                  · exact AL al 2 (by decide) (by decide) (fun post' hp => sn_xstS P XS na s h9 (fun w => absurd w s0) (fun _ w => absurd w e) (fun _ _ w => absurd al w) (fun _ _ w => absurd w f) (fun _ _ _ => hp))
                      (fun post' hp => sn_ystS P c65 YS R2 s h9 (fun w => absurd w s0) (fun _ w => absurd w e) (fun _ _ w => absurd al w) (fun _ _ w => absurd w f) (fun _ _ _ => hp))
                · exact sn_xspR 3 (Or.inr rfl) (fun post' hp => sn_xstS P XS na s h9 (fun w => absurd w s0) (fun _ w => absurd w e) (fun _ _ _ => hp) (fun _ w => absurd w al) (fun _ w => absurd w al))
                    (sn_yspR 3 (Or.inr rfl) (fun post' hp => sn_ystS P c65 YS R2 s h9 (fun w => absurd w s0) (fun _ w => absurd w e) (fun _ _ _ => hp) (fun _ w => absurd w al) (fun _ w => absurd w al)) ⟨rfl, J⟩)
          · exact sn_xspB (Or.inr ⟨w1, w2⟩) (fun post' hp => sn_xstS P XS na s h9 (fun _ => hp _) (fun _ _ => hp _) (fun _ _ _ => hp _) (fun _ _ _ => hp _) (fun _ _ _ => hp _)) (sn_yspB (Or.inr ⟨w1, w2⟩) ⟨rfl, J⟩)
      · have n9 : ¬ nI s ≤ (9 : Int32) := fun w => h9 ((nI_leI (a := s) (b := 9) (by omega) (by omega)).mp w)
        refine sn_xspR 0 (Or.inl rfl) (fun post' hp => ?_) (sn_yspR 0 (Or.inl rfl) (fun post' hp => br_f (by decide) (br_f z (br_f n9 hp))) ⟨rfl, J⟩)
        unfold wpX_stopState
        exact sn_xins (fun w => absurd w na) (fun _ => br_f (by decide) (br_f z (br_f n9 hp)))
theorem i_vc_undo {k : Nat} {u : SX} {v : SY} (I : i_Rel k u v) (hk : k + 3 ≤ 1538) : wpX_undo (fun r u' => wpY_undo (fun r' v' => r' = r ∧ i_Rel (k + 3) u' v') v) u := by
  refine sn_elim (motive := fun u v => wpX_undo (fun r u' => wpY_undo (fun r' v' => r' = r ∧ i_Rel (k + 3) u' v') v) u) ?_ I
  intro cap hc dep n sb bl bp i c d st K V S oa ca sg dp pa f_length f_caret f_selStart f_merge f_itemCount f_activeStop f_selected f_draftCount f_depth f_readAt y_session y_selected y_nItems y_finalIdx y_fromStruct y_rlen y_tlen y_svF y_svL a_text a_body a_history a_itemKind a_itemValue a_openAt a_closeAt a_base a_typedLength a_typedText a_draftKind a_draftValue a_draftOpenAt a_draftCloseAt a_enclosing a_trialLength b_sBody b_typed b_tLen b_kind b_val b_stopOf b_par b_ipos b_prim b_stack b_occ b_rbuf b_tbuf b_svT b_hist R
  have J : i_Rel (k + 3) (nI cap, nI hc, f_length, f_caret, f_selStart, nI n, nI dep, f_merge, f_itemCount, nI bl, nI bp, f_activeStop, f_selected, f_draftCount, f_depth, f_readAt, a_text, a_body, a_history, a_itemKind, a_itemValue, a_openAt, a_closeAt, a_base, a_typedLength, a_typedText, a_draftKind, a_draftValue, a_draftOpenAt, a_draftCloseAt, a_enclosing, a_trialLength) (nI cap, nI hc, f_length, f_caret, f_selStart, nI n, nI sb, f_merge, y_session, y_selected, f_activeStop, y_nItems, y_finalIdx, y_fromStruct, nI bl, nI bp, y_rlen, y_tlen, 0, y_svF, y_svL, nI dep, a_text, a_body, b_sBody, b_typed, b_tLen, a_typedText, b_kind, b_val, b_stopOf, b_par, b_ipos, b_prim, b_stack, b_occ, a_base, b_rbuf, b_tbuf, b_svT, b_hist) := sn_mk R
  obtain ⟨R1, R2, R3, R4⟩ := R
  by_cases z : dep = 0
  · have e0 : nI dep = 0 := by rw [z]; rfl
    exact br_t e0 (br_t e0 ⟨rfl, J⟩)
  · obtain ⟨e, rfl⟩ : ∃ e, dep = e + 1 := ⟨dep - 1, by omega⟩
    have ne : ¬ nI (e + 1) = 0 := nI_ne0 (by omega) (by omega)
    have he : e < 16 := by omega
    have hP : sn_GG sb b_sBody i c d st K V S oa ca sg dp pa f_itemCount y_nItems y_finalIdx a_itemKind a_itemValue a_openAt a_closeAt b_kind b_val b_stopOf b_par b_prim → sn_PI c 0 st K V S oa ca sg dp pa := fun g => (sn_GP R1.2.2.2.2.2.2.1 g).1
    obtain ⟨e1, e2, e3, e4, e5, e6, e7, e8⟩ := R4 e (by omega)
    have c5 : ∀ j, j < 64 → b_hist (170 * e + j) = a_history (159 * e + 5 + j) := e5
    have c6 : ∀ j, j < 80 → b_hist (170 * e + 90 + j) = a_history (159 * e + 79 + j) := e6
    have c7 : ∀ s, s ≤ 9 → sn_TL (a_history (159 * e + 69 + s)) (b_hist (170 * e + 70 + s)) (b_hist (170 * e + 80 + s)) := e7
    have b67 : sn_b1 (b_hist (170 * e + 67)) := by
      obtain ⟨_, _, _, _, _, _, _, _, h5⟩ := e8
      rcases h5 with h5 | h5
      · exact Or.inl h5.2
      · exact Or.inr h5.1
    refine br_f ne (fun y ey => ?_)
    rw [nI_pred] at ey
    subst ey
    refine sn_xrst e he (by rw [sn_mu e 159 rfl, Nat.mul_comm]) e8.1 ?_
    refine br_f ne (fun y ey => ?_)
    rw [nI_pred] at ey
    subst ey
    refine sn_yrst e rfl he (fun t ht => ?_) b67 e8.2.1 (fun ty tl ht1 ht2 => ⟨rfl, ?_⟩)
    · rcases c7 t ht with ⟨_, b, _⟩ | ⟨_, _, _, b, _⟩
      · exact Or.inl b
      · exact Or.inr b
    · have et : sn_cp b_hist (170 * e) a_text 0 64 = sn_cp a_history (159 * e + 5) a_text 0 64 := by
        funext j
        unfold sn_cp
        by_cases w : 0 ≤ j ∧ j < 0 + 64
        · rw [if_pos w, if_pos w]; exact c5 _ (by omega)
        · rw [if_neg w, if_neg w]
      have eT : sn_cp b_hist (170 * e + 90) a_typedText 0 80 = sn_cp a_history (159 * e + 79) a_typedText 0 80 := by
        funext j
        unfold sn_cp
        by_cases w : 0 ≤ j ∧ j < 0 + 80
        · rw [if_pos w, if_pos w]; exact c6 _ (by omega)
        · rw [if_neg w, if_neg w]
      have eL : ∀ s, s ≤ 9 → sn_cp a_history (159 * e + 69) a_typedLength 0 10 s = a_history (159 * e + 69 + s) := by
        intro s hs
        have w := sn_cpI (a := a_history) (b := a_typedLength) (p := 159 * e + 69) (q := 0) (n := 10) (j := s) (by omega)
        rw [Nat.zero_add] at w
        exact w
      rw [et, eT, e1, e2, e3, e4]
      refine sn_mk ⟨⟨R1.1, R1.2.1, R1.2.2.1, R1.2.2.2.1, by omega, R1.2.2.2.2.2⟩, fun s hs => ?_, sn_SQc hP eL e8, fun h hh => R4 h (by omega)⟩
      rw [eL s hs, ht1 s hs, ht2 s hs]
      exact c7 s hs
end SOJ
end
section
section SOK
theorem sn_ed {dep hc : Nat} (h1 : 1 ≤ hc) (h : dep ≤ hc) : ∃ e d, ((dep < hc ∧ e = 0 ∧ d = dep) ∨ (dep = hc ∧ e = 1 ∧ d + 1 = dep)) ∧ d + e ≤ dep ∧ d + 1 ≤ hc := by
  by_cases z : dep < hc
  · exact ⟨0, dep, Or.inl ⟨z, rfl, rfl⟩, by omega, by omega⟩
  · exact ⟨1, dep - 1, Or.inr ⟨by omega, rfl, by omega⟩, by omega, by omega⟩
theorem sn_nhU {oa ca : Nat → Nat} {L : Nat → Int32} {a : Nat} {x : Int32} (h : ¬ sn_hid oa ca L 0 (oa a)) : ¬ sn_hid oa ca (upd L a x) 0 (oa a) := by
  intro ⟨t, t1, t9, tl, tf, to, tc⟩
  have e : t ≠ a := fun e => by rw [e] at to; omega
  rw [pk_un e] at tl
  exact h ⟨t, t1, t9, tl, tf, to, tc⟩
theorem sn_LLU {L : Nat → Int32} {a m : Nat} (h : sn_LL L) (hm : m ≤ 8) : sn_LL (upd L a (nI m)) := by
  intro s hs
  by_cases e : s = a
  · rw [e, pk_us]; exact Or.inr ⟨m, hm, rfl⟩
  · rw [pk_un e]; exact h s hs
theorem sn_TLU {L ty tl : Nat → Int32} {a m : Nat} (h : ∀ s, s ≤ 9 → sn_TL (L s) (ty s) (tl s)) (hm : m ≤ 8) : ∀ s, s ≤ 9 → sn_TL (upd L a (nI m) s) (upd ty a 1 s) (upd tl a (nI m) s) := by
  intro s hs
  by_cases e : s = a
  · rw [e, pk_us, pk_us, pk_us]; exact Or.inr ⟨m, hm, rfl, rfl, rfl⟩
  · rw [pk_un e, pk_un e, pk_un e]; exact h s hs
variable {K S oa ca sg dp pa st : Nat → Nat} {V : Nat → Int32} {c : Nat}
variable {f_capacity f_historyCap f_length f_caret f_selStart f_bodyLength f_undoDepth f_merge f_itemCount f_baseLength f_basePos f_activeStop f_selected f_draftCount f_depth f_readAt : Int32} {a_text a_body a_history a_itemKind a_itemValue a_openAt a_closeAt a_base a_typedLength a_typedText a_draftKind a_draftValue a_draftOpenAt a_draftCloseAt a_enclosing a_trialLength : Nat → Int32}
theorem sn_xleave {post : SX → Prop} (P : sn_PI c 0 st K V S oa ca sg dp pa) (hc : c ≤ 65) (XS : sn_XS c K V oa ca a_itemKind a_itemValue a_openAt a_closeAt) (hL : sn_LL a_typedLength) (bp a : Nat) (a1 : 1 ≤ a) (a9 : a ≤ 9) (oc : oa a < c)
    (h : post (f_capacity, f_historyCap, f_length, nI (bp + (sn_rr K V S oa ca a_typedLength a_typedText (ca a)).length), nI (bp + (sn_rr K V S oa ca a_typedLength a_typedText (ca a)).length), f_bodyLength, f_undoDepth, f_merge, f_itemCount, f_baseLength, nI bp, nI a, 0, f_draftCount, f_depth, f_readAt, a_text, a_body, a_history, a_itemKind, a_itemValue, a_openAt, a_closeAt, a_base, a_typedLength, a_typedText, a_draftKind, a_draftValue, a_draftOpenAt, a_draftCloseAt, a_enclosing, a_trialLength)) :
    wpX_leaveCaretAfterStop post (f_capacity, f_historyCap, f_length, f_caret, f_selStart, f_bodyLength, f_undoDepth, f_merge, f_itemCount, f_baseLength, nI bp, nI a, f_selected, f_draftCount, f_depth, f_readAt, a_text, a_body, a_history, a_itemKind, a_itemValue, a_openAt, a_closeAt, a_base, a_typedLength, a_typedText, a_draftKind, a_draftValue, a_draftOpenAt, a_draftCloseAt, a_enclosing, a_trialLength) := by
  have h0 := P.1
  have q : oa a < ca a ∧ ca a < c := by rcases sn_clo P a with z | z | z <;> omega
  refine ⟨vp_in_nI (by omega) (by omega), ?_⟩
  rw [nI_clamp (by omega)]
  exact sn_xpos P hc XS hL a_typedText bp (ca a) (by rw [XS.2.2 a a9, sn_o1 (by omega)]) (by omega) h
theorem sn_xtail {post : SX → Prop} (P : sn_PI c 0 st K V S oa ca sg dp pa) (hc : c ≤ 65) (XS : sn_XS c K V oa ca a_itemKind a_itemValue a_openAt a_closeAt) (hL : sn_LL a_typedLength) (bp bl a : Nat) (hb : bp ≤ bl) (a1 : 1 ≤ a) (a9 : a ≤ 9) (oc : oa a < c) (hl : bl + (sn_rr K V S oa ca a_typedLength a_typedText c).length ≤ 64)
    (h : post (f_capacity, f_historyCap, nI (bl + (sn_rr K V S oa ca a_typedLength a_typedText c).length), nI (bp + (sn_rr K V S oa ca a_typedLength a_typedText (ca a)).length), nI (bp + (sn_rr K V S oa ca a_typedLength a_typedText (ca a)).length), f_bodyLength, f_undoDepth, f_merge, nI c, nI bl, nI bp, nI a, 0, f_draftCount, f_depth, f_readAt, sn_wr a_text 0 (sn_ls a_base bp ++ sn_rr K V S oa ca a_typedLength a_typedText c ++ sn_ls (fun k => a_base (bp + k)) (bl - bp)), a_body, a_history, a_itemKind, a_itemValue, a_openAt, a_closeAt, a_base, a_typedLength, a_typedText, a_draftKind, a_draftValue, a_draftOpenAt, a_draftCloseAt, a_enclosing, a_trialLength)) :
    wpX_rewriteText (fun u => match u with | (f_capacity, f_historyCap, f_length, f_caret, f_selStart, f_bodyLength, f_undoDepth, f_merge, f_itemCount, f_baseLength, f_basePos, f_activeStop, f_selected, f_draftCount, f_depth, f_readAt, a_text, a_body, a_history, a_itemKind, a_itemValue, a_openAt, a_closeAt, a_base, a_typedLength, a_typedText, a_draftKind, a_draftValue, a_draftOpenAt, a_draftCloseAt, a_enclosing, a_trialLength) => wpX_leaveCaretAfterStop post (f_capacity, f_historyCap, f_length, f_caret, f_selStart, f_bodyLength, f_undoDepth, f_merge, f_itemCount, f_baseLength, f_basePos, f_activeStop, f_selected, f_draftCount, f_depth, f_readAt, a_text, a_body, a_history, a_itemKind, a_itemValue, a_openAt, a_closeAt, a_base, a_typedLength, a_typedText, a_draftKind, a_draftValue, a_draftOpenAt, a_draftCloseAt, a_enclosing, a_trialLength)) (f_capacity, f_historyCap, f_length, f_caret, f_selStart, f_bodyLength, f_undoDepth, f_merge, nI c, nI bl, nI bp, nI a, f_selected, f_draftCount, f_depth, f_readAt, a_text, a_body, a_history, a_itemKind, a_itemValue, a_openAt, a_closeAt, a_base, a_typedLength, a_typedText, a_draftKind, a_draftValue, a_draftOpenAt, a_draftCloseAt, a_enclosing, a_trialLength) :=
  sn_xrw P hc XS hL bp bl hb hl (sn_xleave P hc XS hL bp a a1 a9 oc h)
end SOK
section SOL
variable {K S oa ca sg dp pa st : Nat → Nat} {V L : Nat → Int32} {c : Nat}
variable {f_cap f_hcap f_len f_caret f_sel f_bodyLen f_sBodyLen f_merge f_session f_selected f_active f_nItems f_finalIdx f_fromStruct f_baseLen f_baseP f_rlen f_tlen f_clearAll f_svF f_svL f_hCount : Int32} {a_buf a_body a_sBody a_typed a_tLen a_tText a_kind a_val a_stopOf a_par a_ipos a_prim a_stack a_occ a_base a_rbuf a_tbuf a_svT a_hist : Nat → Int32}
theorem sn_ytail {post : Int32 → SY → Prop} (P : sn_PI c 0 st K V S oa ca sg dp pa) (hc : c ≤ 65) (Y : sn_YS c K V S oa sg pa f_nItems f_finalIdx a_kind a_val a_stopOf a_par a_prim) (T : sn_YT f_clearAll a_typed a_tLen L) (bp bl a : Nat) (hb : bp ≤ bl) (a1 : 1 ≤ a) (a9 : a ≤ 9) (oc : oa a < c) (nh : ¬ sn_hid oa ca L 0 (oa a)) (hl : bl + (sn_rr K V S oa ca L a_tText c).length ≤ 64)
    (h : ∀ rl rb tb tl ip, post (nI (bp + (sn_rr K V S oa ca L a_tText (ca a)).length)) (f_cap, f_hcap, nI (bl + (sn_rr K V S oa ca L a_tText c).length), f_caret, f_sel, f_bodyLen, f_sBodyLen, f_merge, f_session, f_selected, f_active, f_nItems, f_finalIdx, f_fromStruct, nI bl, nI bp, rl, tl, f_clearAll, f_svF, f_svL, f_hCount, sn_wr a_buf 0 (sn_ls a_base bp ++ sn_rr K V S oa ca L a_tText c ++ sn_ls (fun k => a_base (bp + k)) (bl - bp)), a_body, a_sBody, a_typed, a_tLen, a_tText, a_kind, a_val, a_stopOf, a_par, ip, a_prim, a_stack, a_occ, a_base, rb, tb, a_svT, a_hist)) :
    wpY_rebuild (fun u => match u with | (f_cap, f_hcap, f_len, f_caret, f_sel, f_bodyLen, f_sBodyLen, f_merge, f_session, f_selected, f_active, f_nItems, f_finalIdx, f_fromStruct, f_baseLen, f_baseP, f_rlen, f_tlen, f_clearAll, f_svF, f_svL, f_hCount, a_buf, a_body, a_sBody, a_typed, a_tLen, a_tText, a_kind, a_val, a_stopOf, a_par, a_ipos, a_prim, a_stack, a_occ, a_base, a_rbuf, a_tbuf, a_svT, a_hist) => wpY_endOf (fun r u => match u with | (f_cap, f_hcap, f_len, f_caret, f_sel, f_bodyLen, f_sBodyLen, f_merge, f_session, f_selected, f_active, f_nItems, f_finalIdx, f_fromStruct, f_baseLen, f_baseP, f_rlen, f_tlen, f_clearAll, f_svF, f_svL, f_hCount, a_buf, a_body, a_sBody, a_typed, a_tLen, a_tText, a_kind, a_val, a_stopOf, a_par, a_ipos, a_prim, a_stack, a_occ, a_base, a_rbuf, a_tbuf, a_svT, a_hist) => post r (f_cap, f_hcap, f_len, f_caret, f_sel, f_bodyLen, f_sBodyLen, f_merge, f_session, f_selected, f_active, f_nItems, f_finalIdx, f_fromStruct, f_baseLen, f_baseP, f_rlen, f_tlen, f_clearAll, f_svF, f_svL, f_hCount, a_buf, a_body, a_sBody, a_typed, a_tLen, a_tText, a_kind, a_val, a_stopOf, a_par, a_ipos, a_prim, a_stack, a_occ, a_base, a_rbuf, a_tbuf, a_svT, a_hist)) (f_cap, f_hcap, f_len, f_caret, f_sel, f_bodyLen, f_sBodyLen, f_merge, f_session, f_selected, f_active, f_nItems, f_finalIdx, f_fromStruct, f_baseLen, f_baseP, f_rlen, f_tlen, f_clearAll, f_svF, f_svL, f_hCount, a_buf, a_body, a_sBody, a_typed, a_tLen, a_tText, a_kind, a_val, a_stopOf, a_par, a_ipos, a_prim, a_stack, a_occ, a_base, a_rbuf, a_tbuf, a_svT, a_hist) (nI a)) (f_cap, f_hcap, f_len, f_caret, f_sel, f_bodyLen, f_sBodyLen, f_merge, f_session, f_selected, f_active, f_nItems, f_finalIdx, f_fromStruct, nI bl, nI bp, f_rlen, f_tlen, f_clearAll, f_svF, f_svL, f_hCount, a_buf, a_body, a_sBody, a_typed, a_tLen, a_tText, a_kind, a_val, a_stopOf, a_par, a_ipos, a_prim, a_stack, a_occ, a_base, a_rbuf, a_tbuf, a_svT, a_hist) :=
  sn_yrb P hc Y T bp bl hb hl (fun rl rb tb tl ip => sn_yen P hc Y T bp a rfl a1 a9 oc nh (fun rl rb tb tl ip => h rl rb tb tl ip))
end SOL
section SOM
theorem i_vc_backspace {k : Nat} {u : SX} {v : SY} (I : i_Rel k u v) (hk : k + 3 ≤ 1538) : wpX_backspace (fun r u' => wpY_backspace (fun r' v' => r' = r ∧ i_Rel (k + 3) u' v') v) u := by
  refine sn_elim (motive := fun u v => wpX_backspace (fun r u' => wpY_backspace (fun r' v' => r' = r ∧ i_Rel (k + 3) u' v') v) u) ?_ I
  intro cap hc dep n sb bl bp i c d st K V S oa ca sg dp pa f_length f_caret f_selStart f_merge f_itemCount f_activeStop f_selected f_draftCount f_depth f_readAt y_session y_selected y_nItems y_finalIdx y_fromStruct y_rlen y_tlen y_svF y_svL a_text a_body a_history a_itemKind a_itemValue a_openAt a_closeAt a_base a_typedLength a_typedText a_draftKind a_draftValue a_draftOpenAt a_draftCloseAt a_enclosing a_trialLength b_sBody b_typed b_tLen b_kind b_val b_stopOf b_par b_ipos b_prim b_stack b_occ b_rbuf b_tbuf b_svT b_hist R
  have J : i_Rel (k + 3) (nI cap, nI hc, f_length, f_caret, f_selStart, nI n, nI dep, f_merge, f_itemCount, nI bl, nI bp, f_activeStop, f_selected, f_draftCount, f_depth, f_readAt, a_text, a_body, a_history, a_itemKind, a_itemValue, a_openAt, a_closeAt, a_base, a_typedLength, a_typedText, a_draftKind, a_draftValue, a_draftOpenAt, a_draftCloseAt, a_enclosing, a_trialLength) (nI cap, nI hc, f_length, f_caret, f_selStart, nI n, nI sb, f_merge, y_session, y_selected, f_activeStop, y_nItems, y_finalIdx, y_fromStruct, nI bl, nI bp, y_rlen, y_tlen, 0, y_svF, y_svL, nI dep, a_text, a_body, b_sBody, b_typed, b_tLen, a_typedText, b_kind, b_val, b_stopOf, b_par, b_ipos, b_prim, b_stack, b_occ, a_base, b_rbuf, b_tbuf, b_svT, b_hist) := sn_mk R
  obtain ⟨R1, R2, R3, R4⟩ := R
  have hP : sn_GG sb b_sBody i c d st K V S oa ca sg dp pa f_itemCount y_nItems y_finalIdx a_itemKind a_itemValue a_openAt a_closeAt b_kind b_val b_stopOf b_par b_prim → sn_PI c 0 st K V S oa ca sg dp pa := fun g => (sn_GP R1.2.2.2.2.2.2.1 g).1
  obtain ⟨e, dd, hed, hed1, hed2⟩ := sn_ed (dep := dep) R1.2.2.1 R1.2.2.2.2.1
  have h16 := R1.2.2.2.1
  have SSl : sn_SS (sn_GG sb b_sBody i c d st K V S oa ca sg dp pa f_itemCount y_nItems y_finalIdx a_itemKind a_itemValue a_openAt a_closeAt b_kind b_val b_stopOf b_par b_prim) c K V S oa ca cap bl f_length f_caret f_selStart f_activeStop f_selected f_length f_caret f_selStart y_session f_activeStop y_selected a_text a_text a_typedLength b_typed b_tLen a_typedText a_typedText := ⟨rfl, rfl, rfl, rfl, fun _ _ => rfl, fun _ _ => rfl, R2, R3⟩
  have TB := sn_TLb R2
  obtain ⟨b1, b2, l, q, el, eq, hl, hlc, hS⟩ := R3
  have c64 := R1.2.1
  have hbb := R1.2.2.2.2.2.2.2.1
  subst el eq
  unfold wpX_backspace
  rcases hS with ⟨ea, es⟩ | ⟨es, e2, G, a, ea, a1, a9, oc, nh, hs, len⟩
  · subst ea es
    refine sn_xins (fun _ => br_t rfl ?_) (fun z => absurd rfl z)
    by_cases z : q = 0
    · have e0 : nI q = 0 := by rw [z]; rfl
      exact br_t e0 (br_t rfl (br_t e0 ⟨rfl, J⟩))
    · have ne : ¬ nI q = 0 := nI_ne0 (by omega) (by omega)
      refine br_f ne ?_
      refine sn_xgrp e dd dep hc h16 hed b1 (fun xh' hx => ?_)
      refine sn_xc_text_text q (q - 1) (l - q) rfl (sn_sb q 1 (by omega) rfl) (pk_sub hl) (by omega) (by omega) (by omega) ?_
      intro y ey
      rw [sn_sb l 1 (by omega) rfl] at ey
      subst ey
      rw [sn_sb q 1 (by omega) rfl]
      refine br_t rfl (br_f ne ?_)
      refine sn_ypush e dd dep hc h16 hed TB (Or.inl rfl) b2 (fun yh' hy => ?_)
      intro y ey
      rw [ey, sn_sb q 1 (by omega) rfl]
      refine sn_ybac q l (by omega) hl (by omega) ⟨rfl, ?_⟩
      exact sn_mk (dep := dd + 1) ⟨⟨R1.1, R1.2.1, R1.2.2.1, R1.2.2.2.1, by omega, R1.2.2.2.2.2⟩, R2, ⟨b1, b2, l - 1, q - 1, rfl, rfl, by omega, by omega, Or.inl ⟨rfl, rfl⟩⟩, sn_push hP hed1 R4 SSl hx hy⟩
  · have eI := G.2.1
    subst ea es eI
    obtain ⟨P, c65, h00⟩ := sn_GP R1.2.2.2.2.2.2.1 G
    have XS := G.2.2.1
    have YS := G.2.2.2
    have YT := sn_TLy R2
    have LL := sn_YTL YT
    have na : nI a ≠ -1 := sn_nm1 (by omega)
    have v10 : vp_in (nI a) 10 := vp_in_nI (by omega) (by omega)
    have ca' : (nI a).toNatClampNeg = a := nI_clamp (by omega)
    subst e2
    refine sn_xins (fun z => absurd z na) (fun _ => br_f (by decide) ?_)
    have MO : ∀ m : Nat, m ≤ 8 → (∀ s, s ≤ 9 → (upd a_typedLength a (nI m) s).toNatClampNeg ≤ (a_typedLength s).toNatClampNeg) → bl + (sn_rr K V S oa ca (upd a_typedLength a (nI m)) a_typedText c).length ≤ l ∧ (sn_rr K V S oa ca (upd a_typedLength a (nI m)) a_typedText (ca a)).length ≤ (sn_rr K V S oa ca (upd a_typedLength a (nI m)) a_typedText c).length ∧ (sn_rr K V S oa ca (upd a_typedLength a (nI m)) a_typedText c).length = (sn_rr K V S oa ca (upd a_typedLength a (nI m)) (fun _ => 0) c).length := by
      intro m hm hmo
      have hl1 := sn_rrMo (V := V) (T := fun _ => 0) (T' := a_typedText) (x := c) P (fun s hs z => by
        by_cases w : s = a
        · rw [w, pk_us]; exact sn_nm1 (by omega)
        · rw [pk_un w]; exact z) hmo (Nat.le_refl c)
      have h0 := P.1
      have qc : ca a ≤ c := by rcases sn_clo P a with z | z | z <;> omega
      exact ⟨by omega, sn_rrM' qc, sn_rrLC (V := V) (L := upd a_typedLength a (nI m)) (L' := upd a_typedLength a (nI m)) (T := fun _ => 0) (T' := a_typedText) (x := c) P (fun _ _ => rfl) (Nat.le_refl c)⟩
    have fin : ∀ (m : Nat) (ty tl : Nat → Int32), m ≤ 8 → (∀ s, s ≤ 9 → sn_TL (upd a_typedLength a (nI m) s) (ty s) (tl s)) → (∀ s, s ≤ 9 → (upd a_typedLength a (nI m) s).toNatClampNeg ≤ (a_typedLength s).toNatClampNeg) →
        ∀ xh' yh', sn_xsv a_history xh' (159 * e) dd (nI l) (nI q) f_selStart (nI a) y_selected a_text a_typedLength a_typedText → sn_ysv b_hist yh' (170 * e) dd (nI l) (nI q) f_selStart 1 (nI a) y_selected a_text b_typed b_tLen a_typedText →
        wY_backspace_162 (fun r' v' => r' = 0 ∧ i_Rel (k + 3) (nI cap, nI hc, nI (bl + (sn_rr K V S oa ca (upd a_typedLength a (nI m)) a_typedText c).length), nI (bp + (sn_rr K V S oa ca (upd a_typedLength a (nI m)) a_typedText (ca a)).length), nI (bp + (sn_rr K V S oa ca (upd a_typedLength a (nI m)) a_typedText (ca a)).length), nI n, nI (dd + 1), 0, nI c, nI bl, nI bp, nI a, 0, f_draftCount, f_depth, f_readAt, sn_wr a_text 0 (sn_ls a_base bp ++ sn_rr K V S oa ca (upd a_typedLength a (nI m)) a_typedText c ++ sn_ls (fun k => a_base (bp + k)) (bl - bp)), a_body, xh', a_itemKind, a_itemValue, a_openAt, a_closeAt, a_base, upd a_typedLength a (nI m), a_typedText, a_draftKind, a_draftValue, a_draftOpenAt, a_draftCloseAt, a_enclosing, a_trialLength) v') (nI a) (nI cap) (nI hc) (nI l) (nI q) f_selStart (nI n) (nI sb) f_merge 1 y_selected (nI a) y_nItems y_finalIdx y_fromStruct (nI bl) (nI bp) y_rlen y_tlen 0 y_svF y_svL (nI (dd + 1)) a_text a_body b_sBody ty tl a_typedText b_kind b_val b_stopOf b_par b_ipos b_prim b_stack b_occ a_base b_rbuf b_tbuf b_svT yh' := by
      intro m ty tl hm hTL hmo xh' yh' hx hy
      have YT' := sn_TLy hTL
      have nh' := sn_nhU (x := nI m) nh
      obtain ⟨hl2, hl3, hl4⟩ := MO m hm hmo
      unfold wY_backspace_162
      refine sn_ytail (post := fun r u => match u with | (f_cap, f_hcap, f_len, f_caret, f_sel, f_bodyLen, f_sBodyLen, f_merge, f_session, f_selected, f_active, f_nItems, f_finalIdx, f_fromStruct, f_baseLen, f_baseP, f_rlen, f_tlen, f_clearAll, f_svF, f_svL, f_hCount, a_buf, a_body, a_sBody, a_typed, a_tLen, a_tText, a_kind, a_val, a_stopOf, a_par, a_ipos, a_prim, a_stack, a_occ, a_base, a_rbuf, a_tbuf, a_svT, a_hist) => 0 = (0 : Int32) ∧ i_Rel (k + 3) _ (f_cap, f_hcap, f_len, r, r, f_bodyLen, f_sBodyLen, 0, f_session, f_selected, f_active, f_nItems, f_finalIdx, f_fromStruct, f_baseLen, f_baseP, f_rlen, f_tlen, f_clearAll, f_svF, f_svL, f_hCount, a_buf, a_body, a_sBody, a_typed, a_tLen, a_tText, a_kind, a_val, a_stopOf, a_par, a_ipos, a_prim, a_stack, a_occ, a_base, a_rbuf, a_tbuf, a_svT, a_hist)) P c65 YS YT' bp bl a hbb a1 a9 oc nh' (by omega) (fun rl rb tb tl' ip => ⟨rfl, ?_⟩)
      exact sn_mk (dep := dd + 1) ⟨⟨R1.1, R1.2.1, R1.2.2.1, R1.2.2.2.1, by omega, R1.2.2.2.2.2⟩, hTL, ⟨Or.inl rfl, Or.inl rfl, bl + (sn_rr K V S oa ca (upd a_typedLength a (nI m)) a_typedText c).length, bp + (sn_rr K V S oa ca (upd a_typedLength a (nI m)) a_typedText (ca a)).length, rfl, rfl, by omega, by omega, Or.inr ⟨rfl, rfl, G, a, rfl, a1, a9, oc, nh', fun _ => by rw [pk_us]; exact sn_nm1 (by omega), by rw [hl4]⟩⟩, sn_push hP hed1 R4 SSl hx hy⟩
    by_cases s0 : y_selected = 0
    · have la := hs s0
      rcases R2 a a9 with ⟨w, _, _⟩ | ⟨m, hm, tm, tt, tn⟩
      · exact absurd w la
      · refine br_t s0 ⟨v10, ?_⟩
        rw [ca', tm]
        by_cases m0 : m = 0
        · have e0 : nI m = 0 := by rw [m0]; rfl
          refine br_t e0 (br_f (by decide) (br_t s0 ⟨v10, ?_⟩))
          rw [ca', tn]
          exact br_t e0 ⟨rfl, J⟩
        · have ne : ¬ nI m = 0 := nI_ne0 (by omega) (by omega)
          have mo : ∀ s, s ≤ 9 → (upd a_typedLength a (nI (m - 1)) s).toNatClampNeg ≤ (a_typedLength s).toNatClampNeg := by
            intro s hs
            by_cases w : s = a
            · rw [w, pk_us, tm, nI_clamp (by omega), nI_clamp (by omega)]; omega
            · rw [pk_un w]; exact Nat.le_refl _
          refine br_f ne ?_
          unfold wX_backspaceInStop_22
          refine sn_xgrp e dd dep hc h16 hed b1 (fun xh' hx => ?_)
          refine br_t s0 ⟨v10, ?_⟩
          refine ⟨v10, fun y ey => ?_⟩
          rw [ca', tm, sn_sb m 1 (by omega) rfl] at ey
          subst ey
          refine sn_xtail P c65 XS (sn_LLU LL (by omega)) bp bl a hbb a1 a9 oc (by have := (MO (m - 1) (by omega) mo).1; omega) ?_
          refine br_f (by decide) (br_t s0 ⟨v10, ?_⟩)
          rw [ca', tn]
          refine br_f ne ?_
          refine sn_ypush e dd dep hc h16 hed TB (Or.inr rfl) b2 (fun yh' hy => ?_)
          refine ⟨v10, v10, fun y ey => ?_⟩
          rw [tn, sn_sb m 1 (by omega) rfl] at ey
          subst ey
          refine fin (m - 1) b_typed (upd b_tLen a (nI (m - 1))) (by omega) (fun s hs => ?_) mo xh' yh' hx hy
          by_cases w : s = a
          · rw [w, pk_us, pk_us]; exact Or.inr ⟨m - 1, by omega, rfl, tt, rfl⟩
          · rw [pk_un w, pk_un w]; exact R2 s hs
    · have mo : ∀ s, s ≤ 9 → (upd a_typedLength a (nI 0) s).toNatClampNeg ≤ (a_typedLength s).toNatClampNeg := by
        intro s hs
        by_cases w : s = a
        · rw [w, pk_us, nI_clamp (by omega)]; exact Nat.zero_le _
        · rw [pk_un w]; exact Nat.le_refl _
      refine br_f s0 ?_
      unfold wX_backspaceInStop_22
      refine sn_xgrp e dd dep hc h16 hed b1 (fun xh' hx => ?_)
      refine br_f s0 ?_
      refine ⟨v10, fun y ey => ?_⟩
      rw [ca'] at ey
      have ey' : y = upd a_typedLength a (nI 0) := ey
      subst ey'
      refine sn_xtail P c65 XS (sn_LLU LL (by omega)) bp bl a hbb a1 a9 oc (by have := (MO 0 (by omega) mo).1; omega) ?_
      refine br_f (by decide) (br_f s0 ?_)
      refine sn_ypush e dd dep hc h16 hed TB (Or.inr rfl) b2 (fun yh' hy => ?_)
      refine ⟨v10, fun y ey => ⟨v10, fun z ez => ?_⟩⟩
      rw [ca', sn_nar1] at ey
      rw [ca'] at ez
      subst ey ez
      exact fin 0 (upd b_typed a 1) (upd b_tLen a 0) (by omega) (sn_TLU R2 (by omega)) mo xh' yh' hx hy
end SOM
end
section
section SON
theorem sn_uu {f : Nat → Int32} {a : Nat} {x : Int32} : upd (upd f a x) a (f a) = f := by
  funext j
  by_cases e : j = a
  · rw [e, pk_us]
  · rw [pk_un e, pk_un e]
theorem sn_svR (T sv : Nat → Int32) (b i : Nat) (x : Int32) (h1 : b ≤ i) (h2 : i < b + 8) : sn_cp (sn_cp T b sv 0 8) 0 (upd T i x) b 8 = T := by
  funext j
  by_cases z : b ≤ j ∧ j < b + 8
  · obtain ⟨k, rfl⟩ : ∃ k, j = b + k := ⟨j - b, by omega⟩
    rw [sn_cpI (by omega)]
    exact sn_cpI (by omega)
  · rw [sn_cpO (by omega), pk_un (by omega)]
variable {K S oa ca sg dp pa st : Nat → Nat} {V L : Nat → Int32} {c : Nat}
variable {f_cap f_hcap f_len f_caret f_sel f_bodyLen f_sBodyLen f_merge f_session f_selected f_active f_nItems f_finalIdx f_fromStruct f_baseLen f_baseP f_rlen f_tlen f_clearAll f_svF f_svL f_hCount : Int32} {a_buf a_body a_sBody a_typed a_tLen a_tText a_kind a_val a_stopOf a_par a_ipos a_prim a_stack a_occ a_base a_rbuf a_tbuf a_svT a_hist : Nat → Int32}
variable {post : Int32 → SY → Prop}
theorem sn_y168 (P : sn_PI c 0 st K V S oa ca sg dp pa) (hc : c ≤ 65) (Y : sn_YS c K V S oa sg pa f_nItems f_finalIdx a_kind a_val a_stopOf a_par a_prim) (TL : ∀ s, s ≤ 9 → sn_TL (L s) (a_typed s) (a_tLen s)) (x : Int32) (a nl bl cap : Nat) (a1 : 1 ≤ a) (a9 : a ≤ 9) (n1 : 1 ≤ nl) (n8 : nl ≤ 8) (hbl : bl ≤ 64) (hcap : cap ≤ 64)
    (hF : cap < bl + (sn_rr K V S oa ca (upd L a (nI nl)) (upd a_tText (a * 8 + nl - 1) x) c).length → ∀ rl rb tb tl ip sf sl sv, post (-3) (nI cap, f_hcap, f_len, f_caret, f_sel, f_bodyLen, f_sBodyLen, f_merge, f_session, f_selected, f_active, f_nItems, f_finalIdx, f_fromStruct, nI bl, f_baseP, rl, tl, 0, sf, sl, f_hCount, a_buf, a_body, a_sBody, a_typed, a_tLen, a_tText, a_kind, a_val, a_stopOf, a_par, ip, a_prim, a_stack, a_occ, a_base, rb, tb, sv, a_hist))
    (hO : bl + (sn_rr K V S oa ca (upd L a (nI nl)) (upd a_tText (a * 8 + nl - 1) x) c).length ≤ cap → ∀ rl rb tb tl ip sf sl sv, (f_merge = 0 → wpY_push (fun u => match u with | (f_cap, f_hcap, f_len, f_caret, f_sel, f_bodyLen, f_sBodyLen, f_merge, f_session, f_selected, f_active, f_nItems, f_finalIdx, f_fromStruct, f_baseLen, f_baseP, f_rlen, f_tlen, f_clearAll, f_svF, f_svL, f_hCount, a_buf, a_body, a_sBody, a_typed, a_tLen, a_tText, a_kind, a_val, a_stopOf, a_par, a_ipos, a_prim, a_stack, a_occ, a_base, a_rbuf, a_tbuf, a_svT, a_hist) => wY_typeChar_344 post x (nI a) (nI nl) f_cap f_hcap f_len f_caret f_sel f_bodyLen f_sBodyLen f_merge f_session f_selected f_active f_nItems f_finalIdx f_fromStruct f_baseLen f_baseP f_rlen f_tlen f_clearAll f_svF f_svL f_hCount a_buf a_body a_sBody a_typed a_tLen a_tText a_kind a_val a_stopOf a_par a_ipos a_prim a_stack a_occ a_base a_rbuf a_tbuf a_svT a_hist) (nI cap, f_hcap, f_len, f_caret, f_sel, f_bodyLen, f_sBodyLen, f_merge, f_session, f_selected, f_active, f_nItems, f_finalIdx, f_fromStruct, nI bl, f_baseP, rl, tl, 0, sf, sl, f_hCount, a_buf, a_body, a_sBody, a_typed, a_tLen, a_tText, a_kind, a_val, a_stopOf, a_par, ip, a_prim, a_stack, a_occ, a_base, rb, tb, sv, a_hist)) ∧ (¬ f_merge = 0 → wY_typeChar_344 post x (nI a) (nI nl) (nI cap) f_hcap f_len f_caret f_sel f_bodyLen f_sBodyLen f_merge f_session f_selected f_active f_nItems f_finalIdx f_fromStruct (nI bl) f_baseP rl tl 0 sf sl f_hCount a_buf a_body a_sBody a_typed a_tLen a_tText a_kind a_val a_stopOf a_par ip a_prim a_stack a_occ a_base rb tb sv a_hist)) :
    wY_typeChar_168 post x (nI a) (nI nl) (nI cap) f_hcap f_len f_caret f_sel f_bodyLen f_sBodyLen f_merge f_session f_selected f_active f_nItems f_finalIdx f_fromStruct (nI bl) f_baseP f_rlen f_tlen 0 f_svF f_svL f_hCount a_buf a_body a_sBody a_typed a_tLen a_tText a_kind a_val a_stopOf a_par a_ipos a_prim a_stack a_occ a_base a_rbuf a_tbuf a_svT a_hist := by
  have v10 : vp_in (nI a) 10 := vp_in_nI (by omega) (by omega)
  have ca' : (nI a).toNatClampNeg = a := nI_clamp (by omega)
  have tb1 := sn_TLb TL a a9
  have i8 : ∀ j, nI a * 8 + nI j = nI (a * 8 + j) := fun j => by rw [sn_mu a 8 rfl, nI_add]
  have ix : nI a * 8 + nI nl - 1 = nI (a * 8 + nl - 1) := by rw [i8, sn_sb (a * 8 + nl) 1 (by omega) rfl]
  have LLp := sn_YTL (sn_TLy TL)
  have lb := sn_rrB' (V := V) (L := (upd L a (nI nl))) (T := (upd a_tText (a * 8 + nl - 1) x)) (x := c) P hc (sn_LL8 (sn_LLU LLp n8)) (Nat.le_refl c)
  refine ⟨v10, fun sf esf => ⟨?_, ?_, v10, fun sl esl => ?_⟩⟩
  · rw [ca'] at esf
    rw [esf]
    rcases tb1 with b | b <;> rw [b] <;> rfl
  · rw [ca'] at esf
    rw [esf]
    rcases tb1 with b | b <;> rw [b] <;> rfl
  · rw [ca'] at esf esl
    have go : ∀ m j n, j + m = 8 → m < n → wY_typeChar_191 post x (nI a) (nI nl) (nI cap) f_hcap f_len f_caret f_sel f_bodyLen f_sBodyLen f_merge f_session f_selected f_active f_nItems f_finalIdx f_fromStruct (nI bl) f_baseP f_rlen f_tlen 0 sf sl f_hCount n (nI j) a_buf a_body a_sBody a_typed a_tLen a_tText a_kind a_val a_stopOf a_par a_ipos a_prim a_stack a_occ a_base a_rbuf a_tbuf (sn_cp a_tText (a * 8) a_svT 0 j) a_hist := by
      intro m
      induction m with
      | zero =>
        intro j n hi hn
        obtain ⟨n, rfl⟩ : ∃ k, n = k + 1 := ⟨n - 1, by omega⟩
        obtain rfl : j = 8 := by omega
        refine br_t (by decide) ⟨v10, fun ty ety => ?_⟩
        rw [ix]
        refine ⟨vp_in_nI (by omega) (by omega), fun tt ett => ⟨v10, fun tl etl => ?_⟩⟩
        rw [ca', sn_nar1] at ety
        rw [nI_clamp (by omega)] at ett
        rw [ca'] at etl
        subst ety ett etl
        refine sn_yrn P hc Y (sn_TLy (sn_TLU TL n8)) (fun rb tb tl' ip A I => ?_)
        intro x4 ex4
        rw [nI_add] at ex4
        refine ⟨v10, fun ty2 e2 => ⟨v10, fun tl2 e3 => ?_⟩⟩
        have en : vp_nar .boolean sf = sf := by
          rw [esf]
          rcases tb1 with b | b <;> rw [b] <;> rfl
        rw [ca', en, esf, sn_uu] at e2
        rw [ca', esl, sn_uu] at e3
        rw [e2, e3, ex4]
        have go2 : ∀ m j n, j + m = 8 → m < n → wY_typeChar_289 post x (nI a) (nI nl) (nI (bl + (sn_rr K V S oa ca (upd L a (nI nl)) (upd a_tText (a * 8 + nl - 1) x) c).length)) (nI cap) f_hcap f_len f_caret f_sel f_bodyLen f_sBodyLen f_merge f_session f_selected f_active f_nItems f_finalIdx f_fromStruct (nI bl) f_baseP (nI (sn_rr K V S oa ca (upd L a (nI nl)) (upd a_tText (a * 8 + nl - 1) x) c).length) tl' 0 sf sl f_hCount n (nI j) a_buf a_body a_sBody a_typed a_tLen (sn_cp (sn_cp a_tText (a * 8) a_svT 0 8) 0 (upd a_tText (a * 8 + nl - 1) x) (a * 8) j) a_kind a_val a_stopOf a_par ip a_prim a_stack a_occ a_base rb tb (sn_cp a_tText (a * 8) a_svT 0 8) a_hist := by
          intro m
          induction m with
          | zero =>
            intro j n hi hn
            obtain ⟨n, rfl⟩ : ∃ k, n = k + 1 := ⟨n - 1, by omega⟩
            obtain rfl : j = 8 := by omega
            rw [sn_svR a_tText a_svT (a * 8) (a * 8 + nl - 1) x (by omega) (by omega)]
            refine br_t (by decide) ?_
            by_cases z : bl + (sn_rr K V S oa ca (upd L a (nI nl)) (upd a_tText (a * 8 + nl - 1) x) c).length ≤ cap
            · exact br_t (nI_le z (by omega)) (hO z _ rb tb tl' ip sf sl _)
            · exact br_f (nI_ge (by omega) (by omega)) (hF (by omega) _ rb tb tl' ip sf sl _)
          | succ m ih =>
            intro j n hi hn
            obtain ⟨n, rfl⟩ : ∃ k, n = k + 1 := ⟨n - 1, by omega⟩
            refine br_f (nI_ge (a := j) (b := 8) (by omega) (by omega)) ⟨vp_in_nI (by omega) (by omega), ?_⟩
            rw [i8]
            refine ⟨vp_in_nI (by omega) (by omega), fun y ey z ez => ?_⟩
            have w := sn_cpS (sn_cp a_tText (a * 8) a_svT 0 8) 0 (upd a_tText (a * 8 + nl - 1) x) (a * 8) j
            rw [Nat.zero_add] at w
            rw [nI_clamp (by omega), nI_clamp (by omega), w] at ey
            rw [ey, ez, nI_1]
            exact ih (j + 1) n (by omega) (by omega)
        have w := go2 8 0 9 (by omega) (by omega)
        rw [sn_cp0] at w
        exact ⟨_, w⟩
      | succ m ih =>
        intro j n hi hn
        obtain ⟨n, rfl⟩ : ∃ k, n = k + 1 := ⟨n - 1, by omega⟩
        refine br_f (nI_ge (a := j) (b := 8) (by omega) (by omega)) ?_
        rw [i8]
        refine ⟨vp_in_nI (by omega) (by omega), vp_in_nI (by omega) (by omega), fun y ey z ez => ?_⟩
        have w := sn_cpS a_tText (a * 8) a_svT 0 j
        rw [Nat.zero_add] at w
        rw [nI_clamp (by omega), nI_clamp (by omega), w] at ey
        rw [ey, ez, nI_1]
        exact ih (j + 1) n (by omega) (by omega)
    have w := go 8 0 9 (by omega) (by omega)
    rw [sn_cp0] at w
    exact ⟨_, w⟩
theorem sn_y344 (P : sn_PI c 0 st K V S oa ca sg dp pa) (hc : c ≤ 65) (Y : sn_YS c K V S oa sg pa f_nItems f_finalIdx a_kind a_val a_stopOf a_par a_prim) (TL : ∀ s, s ≤ 9 → sn_TL (L s) (a_typed s) (a_tLen s)) (x : Int32) (a nl bl bp : Nat) (hb : bp ≤ bl) (a1 : 1 ≤ a) (a9 : a ≤ 9) (oc : oa a < c) (nh : ¬ sn_hid oa ca L 0 (oa a)) (n1 : 1 ≤ nl) (n8 : nl ≤ 8) (hl : bl + (sn_rr K V S oa ca (upd L a (nI nl)) (upd a_tText (a * 8 + nl - 1) x) c).length ≤ 64)
    (h : ∀ rl rb tb tl ip, post 0 (f_cap, f_hcap, nI (bl + (sn_rr K V S oa ca (upd L a (nI nl)) (upd a_tText (a * 8 + nl - 1) x) c).length), nI (bp + (sn_rr K V S oa ca (upd L a (nI nl)) (upd a_tText (a * 8 + nl - 1) x) (ca a)).length), nI (bp + (sn_rr K V S oa ca (upd L a (nI nl)) (upd a_tText (a * 8 + nl - 1) x) (ca a)).length), f_bodyLen, f_sBodyLen, 1, f_session, 0, f_active, f_nItems, f_finalIdx, f_fromStruct, nI bl, nI bp, rl, tl, 0, f_svF, f_svL, f_hCount, sn_wr a_buf 0 (sn_ls a_base bp ++ sn_rr K V S oa ca (upd L a (nI nl)) (upd a_tText (a * 8 + nl - 1) x) c ++ sn_ls (fun k => a_base (bp + k)) (bl - bp)), a_body, a_sBody, upd a_typed a 1, upd a_tLen a (nI nl), upd a_tText (a * 8 + nl - 1) x, a_kind, a_val, a_stopOf, a_par, ip, a_prim, a_stack, a_occ, a_base, rb, tb, a_svT, a_hist)) :
    wY_typeChar_344 post x (nI a) (nI nl) f_cap f_hcap f_len f_caret f_sel f_bodyLen f_sBodyLen f_merge f_session f_selected f_active f_nItems f_finalIdx f_fromStruct (nI bl) (nI bp) f_rlen f_tlen 0 f_svF f_svL f_hCount a_buf a_body a_sBody a_typed a_tLen a_tText a_kind a_val a_stopOf a_par a_ipos a_prim a_stack a_occ a_base a_rbuf a_tbuf a_svT a_hist := by
  have v10 : vp_in (nI a) 10 := vp_in_nI (by omega) (by omega)
  have ca' : (nI a).toNatClampNeg = a := nI_clamp (by omega)
  have ix : nI a * 8 + nI nl - 1 = nI (a * 8 + nl - 1) := by rw [sn_mu a 8 rfl, nI_add, sn_sb (a * 8 + nl) 1 (by omega) rfl]
  refine ⟨v10, fun ty ety => ?_⟩
  rw [ix]
  refine ⟨vp_in_nI (by omega) (by omega), fun tt ett => ⟨v10, fun tl etl => ?_⟩⟩
  rw [ca', sn_nar1] at ety
  rw [nI_clamp (by omega)] at ett
  rw [ca'] at etl
  subst ety ett etl
  exact sn_ytail (post := fun r u => match u with | (f_cap, f_hcap, f_len, f_caret, f_sel, f_bodyLen, f_sBodyLen, f_merge, f_session, f_selected, f_active, f_nItems, f_finalIdx, f_fromStruct, f_baseLen, f_baseP, f_rlen, f_tlen, f_clearAll, f_svF, f_svL, f_hCount, a_buf, a_body, a_sBody, a_typed, a_tLen, a_tText, a_kind, a_val, a_stopOf, a_par, a_ipos, a_prim, a_stack, a_occ, a_base, a_rbuf, a_tbuf, a_svT, a_hist) => post 0 (f_cap, f_hcap, f_len, r, r, f_bodyLen, f_sBodyLen, 1, f_session, f_selected, f_active, f_nItems, f_finalIdx, f_fromStruct, f_baseLen, f_baseP, f_rlen, f_tlen, f_clearAll, f_svF, f_svL, f_hCount, a_buf, a_body, a_sBody, a_typed, a_tLen, a_tText, a_kind, a_val, a_stopOf, a_par, a_ipos, a_prim, a_stack, a_occ, a_base, a_rbuf, a_tbuf, a_svT, a_hist)) P hc Y (sn_TLy (sn_TLU TL n8)) bp bl a hb a1 a9 oc (sn_nhU nh) hl (fun rl rb tb tl ip => h rl rb tb tl ip)
end SON
section SOPX
variable {K S oa ca sg dp pa st : Nat → Nat} {V : Nat → Int32} {c : Nat}
variable {f_capacity f_historyCap f_length f_caret f_selStart f_bodyLength f_undoDepth f_merge f_itemCount f_baseLength f_basePos f_activeStop f_selected f_draftCount f_depth f_readAt : Int32} {a_text a_body a_history a_itemKind a_itemValue a_openAt a_closeAt a_base a_typedLength a_typedText a_draftKind a_draftValue a_draftOpenAt a_draftCloseAt a_enclosing a_trialLength : Nat → Int32}
theorem sn_x20 {post : Int32 → SX → Prop} (P : sn_PI c 0 st K V S oa ca sg dp pa) (hc : c ≤ 65) (XS : sn_XS c K V oa ca a_itemKind a_itemValue a_openAt a_closeAt) (LL : sn_LL a_typedLength) (x : Int32) (a m cap bl bp hcp dep e dd : Nat) (h16 : hcp ≤ 16) (hed : (dep < hcp ∧ e = 0 ∧ dd = dep) ∨ (dep = hcp ∧ e = 1 ∧ dd + 1 = dep)) (b1 : sn_b1 f_selected)
    (hbb : bp ≤ bl) (hbl : bl ≤ 64) (c64 : cap ≤ 64) (a1 : 1 ≤ a) (a9 : a ≤ 9) (oc : oa a < c) (hm : m < 8)
    (h3 : cap < bl + (sn_rr K V S oa ca (upd a_typedLength a (nI (m + 1))) (upd a_typedText (a * 8 + (m + 1) - 1) x) c).length → ∀ tr, post (-3) (nI cap, nI hcp, f_length, f_caret, f_selStart, f_bodyLength, nI dep, f_merge, nI c, nI bl, nI bp, nI a, f_selected, f_draftCount, f_depth, f_readAt, a_text, a_body, a_history, a_itemKind, a_itemValue, a_openAt, a_closeAt, a_base, a_typedLength, a_typedText, a_draftKind, a_draftValue, a_draftOpenAt, a_draftCloseAt, a_enclosing, tr))
    (h0 : bl + (sn_rr K V S oa ca (upd a_typedLength a (nI (m + 1))) (upd a_typedText (a * 8 + (m + 1) - 1) x) c).length ≤ cap → ∀ tr (xd : Nat) (xh : Nat → Int32), (f_merge = 0 → xd = dd + 1 ∧ sn_xsv a_history xh (159 * e) dd f_length f_caret f_selStart (nI a) f_selected a_text a_typedLength a_typedText) → (¬ f_merge = 0 → xd = dep ∧ xh = a_history) →
      post 0 (nI cap, nI hcp, nI (bl + (sn_rr K V S oa ca (upd a_typedLength a (nI (m + 1))) (upd a_typedText (a * 8 + (m + 1) - 1) x) c).length), nI (bp + (sn_rr K V S oa ca (upd a_typedLength a (nI (m + 1))) (upd a_typedText (a * 8 + (m + 1) - 1) x) (ca a)).length), nI (bp + (sn_rr K V S oa ca (upd a_typedLength a (nI (m + 1))) (upd a_typedText (a * 8 + (m + 1) - 1) x) (ca a)).length), f_bodyLength, nI xd, 1, nI c, nI bl, nI bp, nI a, 0, f_draftCount, f_depth, f_readAt, sn_wr a_text 0 (sn_ls a_base bp ++ sn_rr K V S oa ca (upd a_typedLength a (nI (m + 1))) (upd a_typedText (a * 8 + (m + 1) - 1) x) c ++ sn_ls (fun k => a_base (bp + k)) (bl - bp)), a_body, xh, a_itemKind, a_itemValue, a_openAt, a_closeAt, a_base, upd a_typedLength a (nI (m + 1)), upd a_typedText (a * 8 + (m + 1) - 1) x, a_draftKind, a_draftValue, a_draftOpenAt, a_draftCloseAt, a_enclosing, tr)) :
    wX_typeIntoStop_20 post x (nI m) (nI cap) (nI hcp) f_length f_caret f_selStart f_bodyLength (nI dep) f_merge (nI c) (nI bl) (nI bp) (nI a) f_selected f_draftCount f_depth f_readAt a_text a_body a_history a_itemKind a_itemValue a_openAt a_closeAt a_base a_typedLength a_typedText a_draftKind a_draftValue a_draftOpenAt a_draftCloseAt a_enclosing a_trialLength := by
  have v10 : vp_in (nI a) 10 := vp_in_nI (by omega) (by omega)
  have ca' : (nI a).toNatClampNeg = a := nI_clamp (by omega)
  have LL' := sn_LLU (a := a) (m := m + 1) LL (by omega)
  have i8 : nI a * 8 + nI m = nI (a * 8 + (m + 1) - 1) := by rw [sn_mu a 8 rfl, nI_add]; rfl
  refine br_f (nI_ge (a := m) (b := 8) hm (by omega)) ?_
  refine sn_xfit P hc XS LL (upd a_typedText (a * 8 + (m + 1) - 1) x) a (m + 1) cap bl rfl (nI_1 m) a9 (by omega) c64 hbl (fun le tr => br_f (by decide) ?_) (fun gt tr => br_t rfl (h3 gt tr))
  have X55 : ∀ (xd : Nat) (xh : Nat → Int32), (f_merge = 0 → xd = dd + 1 ∧ sn_xsv a_history xh (159 * e) dd f_length f_caret f_selStart (nI a) f_selected a_text a_typedLength a_typedText) → (¬ f_merge = 0 → xd = dep ∧ xh = a_history) →
      wX_typeIntoStop_55 post x (nI m) (nI cap) (nI hcp) f_length f_caret f_selStart f_bodyLength (nI xd) f_merge (nI c) (nI bl) (nI bp) (nI a) f_selected f_draftCount f_depth f_readAt a_text a_body xh a_itemKind a_itemValue a_openAt a_closeAt a_base a_typedLength a_typedText a_draftKind a_draftValue a_draftOpenAt a_draftCloseAt a_enclosing tr := by
    intro xd xh q1 q2
    unfold wX_typeIntoStop_55
    rw [i8]
    refine ⟨vp_in_nI (by omega) (by omega), fun tt ett => ⟨v10, fun ll ell => ?_⟩⟩
    rw [nI_clamp (by omega)] at ett
    rw [ca', nI_1] at ell
    subst ett ell
    exact sn_xtail P hc XS LL' bp bl a hbb a1 a9 oc (by omega) (h0 le tr xd xh q1 q2)
  by_cases m0 : f_merge = 0
  · refine br_t m0 ?_
    exact sn_xgrp e dd dep hcp h16 hed b1 (fun xh' hx => X55 (dd + 1) xh' (fun _ => ⟨rfl, hx⟩) (fun z => absurd m0 z))
  · exact br_f m0 (X55 dep a_history (fun z => absurd z m0) (fun _ => ⟨rfl, rfl⟩))
end SOPX
section SOP
theorem i_vc_typeChar {k : Nat} {u : SX} {v : SY} (I : i_Rel k u v) (hk : k + 3 ≤ 1538) (v1 : Int32) : wpX_typeChar (fun r u' => wpY_typeChar (fun r' v' => r' = r ∧ i_Rel (k + 3) u' v') v v1) u v1 := by
  refine sn_elim (motive := fun u v => wpX_typeChar (fun r u' => wpY_typeChar (fun r' v' => r' = r ∧ i_Rel (k + 3) u' v') v v1) u v1) ?_ I
  intro cap hc dep n sb bl bp i c d st K V S oa ca sg dp pa f_length f_caret f_selStart f_merge f_itemCount f_activeStop f_selected f_draftCount f_depth f_readAt y_session y_selected y_nItems y_finalIdx y_fromStruct y_rlen y_tlen y_svF y_svL a_text a_body a_history a_itemKind a_itemValue a_openAt a_closeAt a_base a_typedLength a_typedText a_draftKind a_draftValue a_draftOpenAt a_draftCloseAt a_enclosing a_trialLength b_sBody b_typed b_tLen b_kind b_val b_stopOf b_par b_ipos b_prim b_stack b_occ b_rbuf b_tbuf b_svT b_hist R
  have J : i_Rel (k + 3) (nI cap, nI hc, f_length, f_caret, f_selStart, nI n, nI dep, f_merge, f_itemCount, nI bl, nI bp, f_activeStop, f_selected, f_draftCount, f_depth, f_readAt, a_text, a_body, a_history, a_itemKind, a_itemValue, a_openAt, a_closeAt, a_base, a_typedLength, a_typedText, a_draftKind, a_draftValue, a_draftOpenAt, a_draftCloseAt, a_enclosing, a_trialLength) (nI cap, nI hc, f_length, f_caret, f_selStart, nI n, nI sb, f_merge, y_session, y_selected, f_activeStop, y_nItems, y_finalIdx, y_fromStruct, nI bl, nI bp, y_rlen, y_tlen, 0, y_svF, y_svL, nI dep, a_text, a_body, b_sBody, b_typed, b_tLen, a_typedText, b_kind, b_val, b_stopOf, b_par, b_ipos, b_prim, b_stack, b_occ, a_base, b_rbuf, b_tbuf, b_svT, b_hist) := sn_mk R
  have J3 : ∀ rl rb tb tl ip sf sl sv tr, i_Rel (k + 3) (nI cap, nI hc, f_length, f_caret, f_selStart, nI n, nI dep, f_merge, f_itemCount, nI bl, nI bp, f_activeStop, f_selected, f_draftCount, f_depth, f_readAt, a_text, a_body, a_history, a_itemKind, a_itemValue, a_openAt, a_closeAt, a_base, a_typedLength, a_typedText, a_draftKind, a_draftValue, a_draftOpenAt, a_draftCloseAt, a_enclosing, tr) (nI cap, nI hc, f_length, f_caret, f_selStart, nI n, nI sb, f_merge, y_session, y_selected, f_activeStop, y_nItems, y_finalIdx, y_fromStruct, nI bl, nI bp, rl, tl, 0, sf, sl, nI dep, a_text, a_body, b_sBody, b_typed, b_tLen, a_typedText, b_kind, b_val, b_stopOf, b_par, ip, b_prim, b_stack, b_occ, a_base, rb, tb, sv, b_hist) := fun rl rb tb tl ip sf sl sv tr => sn_mk R
  obtain ⟨R1, R2, R3, R4⟩ := R
  have hP : sn_GG sb b_sBody i c d st K V S oa ca sg dp pa f_itemCount y_nItems y_finalIdx a_itemKind a_itemValue a_openAt a_closeAt b_kind b_val b_stopOf b_par b_prim → sn_PI c 0 st K V S oa ca sg dp pa := fun g => (sn_GP R1.2.2.2.2.2.2.1 g).1
  obtain ⟨e, dd, hed, hed1, hed2⟩ := sn_ed (dep := dep) R1.2.2.1 R1.2.2.2.2.1
  have h16 := R1.2.2.2.1
  have SSl : sn_SS (sn_GG sb b_sBody i c d st K V S oa ca sg dp pa f_itemCount y_nItems y_finalIdx a_itemKind a_itemValue a_openAt a_closeAt b_kind b_val b_stopOf b_par b_prim) c K V S oa ca cap bl f_length f_caret f_selStart f_activeStop f_selected f_length f_caret f_selStart y_session f_activeStop y_selected a_text a_text a_typedLength b_typed b_tLen a_typedText a_typedText := ⟨rfl, rfl, rfl, rfl, fun _ _ => rfl, fun _ _ => rfl, R2, R3⟩
  have TB := sn_TLb R2
  obtain ⟨b1, b2, l, q, el, eq, hl, hlc, hS⟩ := R3
  have c64 := R1.2.1
  have hbb := R1.2.2.2.2.2.2.2.1
  have hbl := R1.2.2.2.2.2.2.2.2
  subst el eq
  unfold wpX_typeChar
  refine sn_xcode (fun w => br_t rfl ?_) (fun w1 w2 => br_f (by decide) ?_)
  · rcases w with w | ⟨w1, w2⟩
    · exact br_t w ⟨rfl, J⟩
    · exact br_f w1 (br_f (Int32.not_le.mpr w2) ⟨rfl, J⟩)
  · have w3 : v1 ≤ 126 := Int32.not_lt.mp w2
    rcases hS with ⟨ea, es⟩ | ⟨es, e2, G, a, ea, a1, a9, oc, nh, hs, len⟩
    · subst ea es
      refine sn_xins (fun _ => br_t rfl ?_) (fun z => absurd rfl z)
      by_cases z : l < cap
      · have lt : nI l < nI cap := nI_lt z (by omega)
        refine br_t lt ?_
        by_cases m0 : f_merge = 0
        · refine br_t m0 ?_
          refine sn_xgrp e dd dep hc h16 hed b1 (fun xh' hx => ?_)
          refine sn_xtac v1 q l hl (by omega) ?_
          refine br_f w1 (br_t w3 (br_t rfl (br_t lt (br_t m0 ?_))))
          refine sn_ypush e dd dep hc h16 hed TB (Or.inl rfl) b2 (fun yh' hy => ?_)
          refine sn_ytac v1 q l hl (by omega) ⟨rfl, ?_⟩
          exact sn_mk (dep := dd + 1) ⟨⟨R1.1, R1.2.1, R1.2.2.1, R1.2.2.2.1, by omega, R1.2.2.2.2.2⟩, R2, ⟨b1, b2, l + 1, q + 1, rfl, rfl, by omega, by omega, Or.inl ⟨rfl, rfl⟩⟩, sn_push hP hed1 R4 SSl hx hy⟩
        · refine br_f m0 ?_
          refine sn_xtac v1 q l hl (by omega) ?_
          refine br_f w1 (br_t w3 (br_t rfl (br_t lt (br_f m0 ?_))))
          refine sn_ytac v1 q l hl (by omega) ⟨rfl, ?_⟩
          exact sn_mk ⟨R1, R2, ⟨b1, b2, l + 1, q + 1, rfl, rfl, by omega, by omega, Or.inl ⟨rfl, rfl⟩⟩, R4⟩
      · have nlt : ¬ nI l < nI cap := nI_nlt (by omega) (by omega)
        exact br_f nlt (br_f w1 (br_t w3 (br_t rfl (br_f nlt ⟨rfl, J⟩))))
    · have eI := G.2.1
      subst ea es eI
      obtain ⟨P, c65, h00⟩ := sn_GP R1.2.2.2.2.2.2.1 G
      have XS := G.2.2.1
      have YS := G.2.2.2
      have YT := sn_TLy R2
      have LL := sn_YTL YT
      have na : nI a ≠ -1 := sn_nm1 (by omega)
      have v10 : vp_in (nI a) 10 := vp_in_nI (by omega) (by omega)
      have ca' : (nI a).toNatClampNeg = a := nI_clamp (by omega)
      subst e2
      refine sn_xins (fun z => absurd z na) (fun _ => br_f (by decide) ?_)
      have main : ∀ m : Nat, m < 8 → bl + (sn_rr K V S oa ca (upd a_typedLength a (nI (m + 1))) (upd a_typedText (a * 8 + (m + 1) - 1) v1) c).length ≤ cap → ∀ tr (xd : Nat) (xh : Nat → Int32), (f_merge = 0 → xd = dd + 1 ∧ sn_xsv a_history xh (159 * e) dd (nI l) (nI q) f_selStart (nI a) y_selected a_text a_typedLength a_typedText) → (¬ f_merge = 0 → xd = dep ∧ xh = a_history) →
          wY_typeChar_168 (fun r' v' => r' = 0 ∧ i_Rel (k + 3) (nI cap, nI hc, nI (bl + (sn_rr K V S oa ca (upd a_typedLength a (nI (m + 1))) (upd a_typedText (a * 8 + (m + 1) - 1) v1) c).length), nI (bp + (sn_rr K V S oa ca (upd a_typedLength a (nI (m + 1))) (upd a_typedText (a * 8 + (m + 1) - 1) v1) (ca a)).length), nI (bp + (sn_rr K V S oa ca (upd a_typedLength a (nI (m + 1))) (upd a_typedText (a * 8 + (m + 1) - 1) v1) (ca a)).length), nI n, nI xd, 1, nI c, nI bl, nI bp, nI a, 0, f_draftCount, f_depth, f_readAt, sn_wr a_text 0 (sn_ls a_base bp ++ sn_rr K V S oa ca (upd a_typedLength a (nI (m + 1))) (upd a_typedText (a * 8 + (m + 1) - 1) v1) c ++ sn_ls (fun k => a_base (bp + k)) (bl - bp)), a_body, xh, a_itemKind, a_itemValue, a_openAt, a_closeAt, a_base, upd a_typedLength a (nI (m + 1)), upd a_typedText (a * 8 + (m + 1) - 1) v1, a_draftKind, a_draftValue, a_draftOpenAt, a_draftCloseAt, a_enclosing, tr) v') v1 (nI a) (nI (m + 1)) (nI cap) (nI hc) (nI l) (nI q) f_selStart (nI n) (nI sb) f_merge 1 y_selected (nI a) y_nItems y_finalIdx y_fromStruct (nI bl) (nI bp) y_rlen y_tlen 0 y_svF y_svL (nI dep) a_text a_body b_sBody b_typed b_tLen a_typedText b_kind b_val b_stopOf b_par b_ipos b_prim b_stack b_occ a_base b_rbuf b_tbuf b_svT b_hist := by
        intro m hm le tr xd xh q1 q2
        have nh' := sn_nhU (x := nI (m + 1)) nh
        have h0 := P.1
        have qc : ca a ≤ c := by rcases sn_clo P a with z | z | z <;> omega
        have hl3 := sn_rrM' (K := K) (V := V) (S := S) (oa := oa) (ca := ca) (L := (upd a_typedLength a (nI (m + 1)))) (T := (upd a_typedText (a * 8 + (m + 1) - 1) v1)) qc
        have hl4 := sn_rrLC (V := V) (L := (upd a_typedLength a (nI (m + 1)))) (L' := (upd a_typedLength a (nI (m + 1)))) (T := fun _ => 0) (T' := (upd a_typedText (a * 8 + (m + 1) - 1) v1)) (x := c) P (fun _ _ => rfl) (Nat.le_refl c)
        have SQ' : sn_SQ (sn_GG sb b_sBody i c d st K V S oa ca sg dp pa (nI c) y_nItems y_finalIdx a_itemKind a_itemValue a_openAt a_closeAt b_kind b_val b_stopOf b_par b_prim) c K V S oa ca cap bl (nI (bl + (sn_rr K V S oa ca (upd a_typedLength a (nI (m + 1))) (upd a_typedText (a * 8 + (m + 1) - 1) v1) c).length)) (nI (bp + (sn_rr K V S oa ca (upd a_typedLength a (nI (m + 1))) (upd a_typedText (a * 8 + (m + 1) - 1) v1) (ca a)).length)) (nI a) 0 1 0 (upd a_typedLength a (nI (m + 1))) := ⟨Or.inl rfl, Or.inl rfl, bl + (sn_rr K V S oa ca (upd a_typedLength a (nI (m + 1))) (upd a_typedText (a * 8 + (m + 1) - 1) v1) c).length, bp + (sn_rr K V S oa ca (upd a_typedLength a (nI (m + 1))) (upd a_typedText (a * 8 + (m + 1) - 1) v1) (ca a)).length, rfl, rfl, by omega, by omega, Or.inr ⟨rfl, rfl, G, a, rfl, a1, a9, oc, nh', fun _ => by rw [pk_us]; exact sn_nm1 (by omega), by rw [hl4]⟩⟩
        refine sn_y168 P c65 YS R2 v1 a (m + 1) bl cap a1 a9 (by omega) (by omega) hbl c64 (fun gt => absurd gt (by omega)) (fun _ rl rb tb tl ip sf sl sv => ?_)
        by_cases m0 : f_merge = 0
        · obtain ⟨rfl, hx⟩ := q1 m0
          refine br_t m0 ?_
          refine sn_ypush e dd dep hc h16 hed TB (Or.inr rfl) b2 (fun yh' hy => ?_)
          refine sn_y344 P c65 YS R2 v1 a (m + 1) bl bp hbb a1 a9 oc nh (by omega) (by omega) (by omega) (fun rl rb tb tl ip => ⟨rfl, ?_⟩)
          exact sn_mk (dep := dd + 1) ⟨⟨R1.1, R1.2.1, R1.2.2.1, R1.2.2.2.1, by omega, R1.2.2.2.2.2⟩, sn_TLU R2 (by omega), SQ', sn_push hP hed1 R4 SSl hx hy⟩
        · obtain ⟨rfl, rfl⟩ := q2 m0
          refine br_f m0 ?_
          refine sn_y344 P c65 YS R2 v1 a (m + 1) bl bp hbb a1 a9 oc nh (by omega) (by omega) (by omega) (fun rl rb tb tl ip => ⟨rfl, ?_⟩)
          exact sn_mk ⟨R1, sn_TLU R2 (by omega), SQ', R4⟩
      have full : ∀ m : Nat, m < 8 → cap < bl + (sn_rr K V S oa ca (upd a_typedLength a (nI (m + 1))) (upd a_typedText (a * 8 + (m + 1) - 1) v1) c).length → ∀ tr, wY_typeChar_168 (fun r' v' => r' = -3 ∧ i_Rel (k + 3) (nI cap, nI hc, nI l, nI q, f_selStart, nI n, nI dep, f_merge, nI c, nI bl, nI bp, nI a, y_selected, f_draftCount, f_depth, f_readAt, a_text, a_body, a_history, a_itemKind, a_itemValue, a_openAt, a_closeAt, a_base, a_typedLength, a_typedText, a_draftKind, a_draftValue, a_draftOpenAt, a_draftCloseAt, a_enclosing, tr) v') v1 (nI a) (nI (m + 1)) (nI cap) (nI hc) (nI l) (nI q) f_selStart (nI n) (nI sb) f_merge 1 y_selected (nI a) y_nItems y_finalIdx y_fromStruct (nI bl) (nI bp) y_rlen y_tlen 0 y_svF y_svL (nI dep) a_text a_body b_sBody b_typed b_tLen a_typedText b_kind b_val b_stopOf b_par b_ipos b_prim b_stack b_occ a_base b_rbuf b_tbuf b_svT b_hist := by
        intro m hm gt tr
        exact sn_y168 P c65 YS R2 v1 a (m + 1) bl cap a1 a9 (by omega) (by omega) hbl c64 (fun _ rl rb tb tl ip sf sl sv => ⟨rfl, J3 rl rb tb tl ip sf sl sv tr⟩) (fun le => absurd le (by omega))
      by_cases s0 : y_selected = 0
      · have la := hs s0
        rcases R2 a a9 with ⟨w, _, _⟩ | ⟨m, hm, tm, tt, tn⟩
        · exact absurd w la
        · refine br_t s0 ⟨v10, ?_⟩
          rw [ca', tm]
          by_cases m8 : m < 8
          · have YE : ∀ post : Int32 → SY → Prop, wY_typeChar_168 post v1 (nI a) (nI (m + 1)) (nI cap) (nI hc) (nI l) (nI q) f_selStart (nI n) (nI sb) f_merge 1 y_selected (nI a) y_nItems y_finalIdx y_fromStruct (nI bl) (nI bp) y_rlen y_tlen 0 y_svF y_svL (nI dep) a_text a_body b_sBody b_typed b_tLen a_typedText b_kind b_val b_stopOf b_par b_ipos b_prim b_stack b_occ a_base b_rbuf b_tbuf b_svT b_hist → wpY_typeChar post (nI cap, nI hc, nI l, nI q, f_selStart, nI n, nI sb, f_merge, 1, y_selected, nI a, y_nItems, y_finalIdx, y_fromStruct, nI bl, nI bp, y_rlen, y_tlen, 0, y_svF, y_svL, nI dep, a_text, a_body, b_sBody, b_typed, b_tLen, a_typedText, b_kind, b_val, b_stopOf, b_par, b_ipos, b_prim, b_stack, b_occ, a_base, b_rbuf, b_tbuf, b_svT, b_hist) v1 := by
              intro post hp
              refine br_f w1 (br_t w3 (br_f (by decide) (br_t s0 ⟨v10, ?_⟩)))
              rw [ca', tn]
              refine br_t (nI_lt (b := 8) m8 (by omega)) ⟨v10, fun y ey => ?_⟩
              rw [nI_1] at ey
              subst ey
              exact hp
            exact sn_x20 P c65 XS LL v1 a m cap bl bp hc dep e dd h16 hed b1 hbb hbl c64 a1 a9 oc m8 (fun gt tr => YE _ (full m m8 gt tr)) (fun le tr xd xh q1 q2 => YE _ (main m m8 le tr xd xh q1 q2))
          · refine br_t (nI_le (a := 8) (by omega) (by omega)) (br_f w1 (br_t w3 (br_f (by decide) (br_t s0 ⟨v10, ?_⟩))))
            rw [ca', tn]
            exact br_f (nI_nlt (b := 8) (by omega) (by omega)) ⟨rfl, J⟩
      · have YE : ∀ post : Int32 → SY → Prop, wY_typeChar_168 post v1 (nI a) (nI (0 + 1)) (nI cap) (nI hc) (nI l) (nI q) f_selStart (nI n) (nI sb) f_merge 1 y_selected (nI a) y_nItems y_finalIdx y_fromStruct (nI bl) (nI bp) y_rlen y_tlen 0 y_svF y_svL (nI dep) a_text a_body b_sBody b_typed b_tLen a_typedText b_kind b_val b_stopOf b_par b_ipos b_prim b_stack b_occ a_base b_rbuf b_tbuf b_svT b_hist → wpY_typeChar post (nI cap, nI hc, nI l, nI q, f_selStart, nI n, nI sb, f_merge, 1, y_selected, nI a, y_nItems, y_finalIdx, y_fromStruct, nI bl, nI bp, y_rlen, y_tlen, 0, y_svF, y_svL, nI dep, a_text, a_body, b_sBody, b_typed, b_tLen, a_typedText, b_kind, b_val, b_stopOf, b_par, b_ipos, b_prim, b_stack, b_occ, a_base, b_rbuf, b_tbuf, b_svT, b_hist) v1 :=
          fun post hp => br_f w1 (br_t w3 (br_f (by decide) (br_f s0 hp)))
        refine br_f s0 ?_
        exact sn_x20 P c65 XS LL v1 a 0 cap bl bp hc dep e dd h16 hed b1 hbb hbl c64 a1 a9 oc (by omega) (fun gt tr => YE _ (full 0 (by omega) gt tr)) (fun le tr xd xh q1 q2 => YE _ (main 0 (by omega) le tr xd xh q1 q2))
end SOP
end
section
section SOQ
variable {f_cap f_hcap f_len f_caret f_sel f_bodyLen f_sBodyLen f_merge f_session f_selected f_active f_nItems f_finalIdx f_fromStruct f_baseLen f_baseP f_rlen f_tlen f_clearAll f_svF f_svL f_hCount : Int32} {a_buf a_body a_sBody a_typed a_tLen a_tText a_kind a_val a_stopOf a_par a_ipos a_prim a_stack a_occ a_base a_rbuf a_tbuf a_svT a_hist : Nat → Int32}
theorem sn_yre {post : Int32 → SY → Prop} (sb : Nat) (hs : sb ≤ 64) (h : ∀ (r ni fi : Int32) (ki va so pr pm sk oc : Nat → Int32), (∀ g : sn_G, sn_pp a_sBody sb = some g → sn_YS g.2.1 g.2.2.2.2.1 g.2.2.2.2.2.1 g.2.2.2.2.2.2.1 g.2.2.2.2.2.2.2.1 g.2.2.2.2.2.2.2.2.2.1 g.2.2.2.2.2.2.2.2.2.2.2 ni fi ki va so pr pm) → post r (f_cap, f_hcap, f_len, f_caret, f_sel, f_bodyLen, nI sb, f_merge, f_session, f_selected, f_active, ni, fi, 1, f_baseLen, f_baseP, f_rlen, f_tlen, f_clearAll, f_svF, f_svL, f_hCount, a_buf, a_body, a_sBody, a_typed, a_tLen, a_tText, ki, va, so, pr, a_ipos, pm, sk, oc, a_base, a_rbuf, a_tbuf, a_svT, a_hist)) :
    wpY_parse post (f_cap, f_hcap, f_len, f_caret, f_sel, f_bodyLen, nI sb, f_merge, f_session, f_selected, f_active, f_nItems, f_finalIdx, 1, f_baseLen, f_baseP, f_rlen, f_tlen, f_clearAll, f_svF, f_svL, f_hCount, a_buf, a_body, a_sBody, a_typed, a_tLen, a_tText, a_kind, a_val, a_stopOf, a_par, a_ipos, a_prim, a_stack, a_occ, a_base, a_rbuf, a_tbuf, a_svT, a_hist) := by
  refine sn_ypar (b := a_sBody) (n := sb) (Or.inr ⟨by decide, rfl⟩) hs ⟨fun z => absurd z (by decide), fun _ => rfl⟩ ⟨fun e ni fi ki va so pr pm sk oc => ?_, fun g e ni fi ki va so pr pm sk oc D => ?_⟩
  · exact h _ ni fi ki va so pr pm sk oc (fun g eg => by rw [e] at eg; exact absurd eg (by simp))
  · exact h _ ni fi ki va so pr pm sk oc (fun g' eg => by
      rw [e] at eg
      cases eg
      exact D)
end SOQ
section SOR
theorem i_vc_expand {k : Nat} {u : SX} {v : SY} (I : i_Rel k u v) (hk : k + 3 ≤ 1538) : wpX_expand (fun r u' => wpY_expand (fun r' v' => r' = r ∧ i_Rel (k + 3) u' v') v) u := by
  refine sn_elim (motive := fun u v => wpX_expand (fun r u' => wpY_expand (fun r' v' => r' = r ∧ i_Rel (k + 3) u' v') v) u) ?_ I
  intro cap hc dep n sb bl bp i c d st K V S oa ca sg dp pa f_length f_caret f_selStart f_merge f_itemCount f_activeStop f_selected f_draftCount f_depth f_readAt y_session y_selected y_nItems y_finalIdx y_fromStruct y_rlen y_tlen y_svF y_svL a_text a_body a_history a_itemKind a_itemValue a_openAt a_closeAt a_base a_typedLength a_typedText a_draftKind a_draftValue a_draftOpenAt a_draftCloseAt a_enclosing a_trialLength b_sBody b_typed b_tLen b_kind b_val b_stopOf b_par b_ipos b_prim b_stack b_occ b_rbuf b_tbuf b_svT b_hist R
  have J : i_Rel (k + 3) (nI cap, nI hc, f_length, f_caret, f_selStart, nI n, nI dep, f_merge, f_itemCount, nI bl, nI bp, f_activeStop, f_selected, f_draftCount, f_depth, f_readAt, a_text, a_body, a_history, a_itemKind, a_itemValue, a_openAt, a_closeAt, a_base, a_typedLength, a_typedText, a_draftKind, a_draftValue, a_draftOpenAt, a_draftCloseAt, a_enclosing, a_trialLength) (nI cap, nI hc, f_length, f_caret, f_selStart, nI n, nI sb, f_merge, y_session, y_selected, f_activeStop, y_nItems, y_finalIdx, y_fromStruct, nI bl, nI bp, y_rlen, y_tlen, 0, y_svF, y_svL, nI dep, a_text, a_body, b_sBody, b_typed, b_tLen, a_typedText, b_kind, b_val, b_stopOf, b_par, b_ipos, b_prim, b_stack, b_occ, a_base, b_rbuf, b_tbuf, b_svT, b_hist) := sn_mk R
  obtain ⟨R1, R2, R3, R4⟩ := R
  have n64 := R1.2.2.2.2.2.1
  have s64 := R1.2.2.2.2.2.2.1
  have c64 := R1.2.1
  have h16 := R1.2.2.2.1
  have TB := sn_TLb R2
  have again : ∀ (xr1 xr2 xr3 : Int32) (dK dV dO dC en : Nat → Int32) (ni fi : Int32) (ki va so pr pm sk oc : Nat → Int32) (rl tl : Int32) (ip rb tb : Nat → Int32), (∀ g : sn_G, sn_pp b_sBody sb = some g → sn_YS g.2.1 g.2.2.2.2.1 g.2.2.2.2.2.1 g.2.2.2.2.2.2.1 g.2.2.2.2.2.2.2.1 g.2.2.2.2.2.2.2.2.2.1 g.2.2.2.2.2.2.2.2.2.2.2 ni fi ki va so pr pm) →
      i_Rel (k + 3) (nI cap, nI hc, f_length, f_caret, f_selStart, nI n, nI dep, f_merge, f_itemCount, nI bl, nI bp, f_activeStop, f_selected, xr1, xr2, xr3, a_text, a_body, a_history, a_itemKind, a_itemValue, a_openAt, a_closeAt, a_base, a_typedLength, a_typedText, dK, dV, dO, dC, en, a_trialLength) (nI cap, nI hc, f_length, f_caret, f_selStart, nI n, nI sb, f_merge, y_session, y_selected, f_activeStop, ni, fi, 1, nI bl, nI bp, rl, tl, 0, y_svF, y_svL, nI dep, a_text, a_body, b_sBody, b_typed, b_tLen, a_typedText, ki, va, so, pr, ip, pm, sk, oc, a_base, rb, tb, b_svT, b_hist) := by
    intro xr1 xr2 xr3 dK dV dO dC en ni fi ki va so pr pm sk oc rl tl ip rb tb hY
    have hG : sn_GG sb b_sBody i c d st K V S oa ca sg dp pa f_itemCount y_nItems y_finalIdx a_itemKind a_itemValue a_openAt a_closeAt b_kind b_val b_stopOf b_par b_prim → sn_GG sb b_sBody i c d st K V S oa ca sg dp pa f_itemCount ni fi a_itemKind a_itemValue a_openAt a_closeAt ki va so pr pm := fun g => ⟨g.1, g.2.1, g.2.2.1, hY _ g.1⟩
    exact sn_mk ⟨R1, R2, sn_SQg hG R3, fun h hh => sn_HSg hG (R4 h hh)⟩
  obtain ⟨b1, b2, l, q, el, eq, hl, hlc, hS⟩ := R3
  subst el eq
  unfold wpX_expand
  rcases hS with ⟨ea, es⟩ | ⟨es, e2, G, a, ea, a1, a9, oc, nh, hs, len⟩
  · subst ea es
    refine sn_xins (fun _ => br_t rfl ?_) (fun z => absurd rfl z)
    refine sn_xpb n64 ⟨fun e dc de ra dK dV dO dC en => br_t rfl ?_, fun g eg dK dV dO dC en D => br_f (by decide) ?_⟩
    · refine br_t rfl ?_
      refine sn_ypar (b := a_body) (n := n) (Or.inl ⟨rfl, rfl⟩) n64 ⟨fun _ => rfl, fun z => absurd rfl z⟩ ⟨fun _ ni fi ki va so pr pm sk oc => br_t rfl ?_, fun g' e' => by rw [e] at e'; exact absurd e' (by simp)⟩
      exact sn_yre sb s64 (fun r ni fi ki va so pr pm sk oc hY => ⟨rfl, again dc de ra dK dV dO dC en ni fi ki va so pr pm sk oc _ _ _ _ _ hY⟩)
    · obtain ⟨P2, c65, h00⟩ := sn_ppI n64 eg
      obtain ⟨i2, c2, d2, st2, K2, V2, S2, oa2, ca2, sg2, dp2, pa2⟩ := g
      have h00' : oa2 0 < c2 := h00
      dsimp only at P2 c65
      have XS2 : sn_XS c2 K2 V2 oa2 ca2 dK dV dO dC := D.1
      have lb := sn_rrB' (V := V2) (L := sn_L0) (T := a_typedText) (x := c2) P2 c65 (sn_LL8 sn_LL0) (Nat.le_refl c2)
      refine sn_xudl P2 c65 XS2 a_typedText ?_
      show (_ → _) ∧ (_ → _)
      rw [nI_add]
      have T0 : sn_YT 1 b_typed b_tLen sn_L0 := fun s hs => Or.inl ⟨rfl, Or.inl (by decide)⟩
      by_cases fit : l + (sn_rr K2 V2 S2 oa2 ca2 sn_L0 a_typedText c2).length ≤ cap
      · refine br_t (nI_le fit (by omega)) ?_
        refine sn_xgrp 0 0 0 hc h16 (Or.inl ⟨by omega, rfl, rfl⟩) b1 (fun xh' hx => ?_)
        refine sn_xadopt c65 XS2 (fun ik iv op cl XS3 => ?_)
        refine sn_xkeep l (by omega) ?_
        refine sn_xclr (fun L hL => ?_)
        have LL : sn_LL L := fun s hs => Or.inl (hL s hs)
        have eL := sn_rrLC (V := V2) (L := sn_L0) (L' := L) (T := a_typedText) (T' := a_typedText) (x := c2) P2 (fun s hs => hL s hs) (Nat.le_refl c2)
        have eL2 := sn_rrLC (V := V2) (L := L) (L' := L) (T := fun _ => 0) (T' := a_typedText) (x := c2) P2 (fun s hs => rfl) (Nat.le_refl c2)
        have nhL : ∀ f x, ¬ sn_hid oa2 ca2 L f x := fun f x ⟨s, _, s9, sl, _⟩ => sl (hL s s9)
        have ppE : sn_pp (sn_cp a_body 0 b_sBody 0 n) n = some (i2, c2, d2, st2, K2, V2, S2, oa2, ca2, sg2, dp2, pa2) := by
          rw [← eg]
          refine sn_ppC (fun j hj => ?_)
          have w := sn_cpI (a := a_body) (b := b_sBody) (p := 0) (q := 0) (n := n) (j := j) hj
          rw [Nat.zero_add] at w
          exact w
        refine sn_xrw P2 c65 XS3 LL q l hl (by omega) ?_
        have Yw : ∀ {X' : SX}, (∀ (ni fi : Int32) (ki va so pr pm sk oc : Nat → Int32) (yh' ty tl : Nat → Int32) (rl tll : Int32) (ip rb tb : Nat → Int32), sn_YS c2 K2 V2 S2 oa2 sg2 pa2 ni fi ki va so pr pm → sn_ysv b_hist yh' (170 * 0) 0 (nI l) (nI q) f_selStart 0 (-1) y_selected a_text b_typed b_tLen a_typedText → (∀ s, s ≤ 9 → ty s = 0) → (∀ s, s ≤ 9 → tl s = 0) →
              ∃ n211, wY_expand_211 (fun r' v' => r' = 0 ∧ i_Rel (k + 3) X' v') (nI cap) (nI hc) (nI (l + (sn_rr K2 V2 S2 oa2 ca2 L a_typedText c2).length)) (nI q) f_selStart (nI n) (nI n) 0 0 y_selected ((-1)) ni fi 0 (nI l) (nI q) rl tll 0 y_svF y_svL (nI (0 + 1)) (sn_wr a_text 0 (sn_ls (sn_cp a_text 0 a_base 0 l) q ++ sn_rr K2 V2 S2 oa2 ca2 L a_typedText c2 ++ sn_ls (fun k => sn_cp a_text 0 a_base 0 l (q + k)) (l - q))) a_body (sn_cp a_body 0 b_sBody 0 n) ty tl a_typedText ki va so pr ip pm sk oc (sn_cp a_text 0 a_base 0 l) rb tb b_svT yh' n211 1) →
            wpY_expand (fun r' v' => r' = 0 ∧ i_Rel (k + 3) X' v') (nI cap, nI hc, nI l, nI q, f_selStart, nI n, nI sb, f_merge, 0, y_selected, (-1), y_nItems, y_finalIdx, y_fromStruct, nI bl, nI bp, y_rlen, y_tlen, 0, y_svF, y_svL, nI dep, a_text, a_body, b_sBody, b_typed, b_tLen, a_typedText, b_kind, b_val, b_stopOf, b_par, b_ipos, b_prim, b_stack, b_occ, a_base, b_rbuf, b_tbuf, b_svT, b_hist) := by
          intro X' hF
          refine br_t rfl ?_
          refine sn_ypar (b := a_body) (n := n) (Or.inl ⟨rfl, rfl⟩) n64 ⟨fun _ => rfl, fun z => absurd rfl z⟩ ⟨fun e' => by rw [eg] at e'; exact absurd e' (by simp), fun g' e' ni fi ki va so pr pm sk oc D' => br_f (by decide) ?_⟩
          rw [eg] at e'
          cases e'
          have YS2 : sn_YS c2 K2 V2 S2 oa2 sg2 pa2 ni fi ki va so pr pm := D'
          refine sn_yrn P2 c65 YS2 T0 (fun rb tb tll ip A Ip => ?_)
          show (_ → _) ∧ (_ → _)
          rw [nI_add]
          refine br_t (nI_le fit (by omega)) ?_
          refine sn_ypush 0 0 0 hc h16 (Or.inl ⟨by omega, rfl, rfl⟩) TB (Or.inl rfl) b2 (fun yh' hy => ?_)
          refine sn_yex n l n64 (by omega) (fun ty tl h1 h2 => ?_)
          have YT2 : sn_YT 0 ty tl L := fun s hs => Or.inl ⟨hL s hs, Or.inr (h1 s hs)⟩
          unfold wY_expand_184
          exact sn_yrb P2 c65 YS2 YT2 q l hl (by omega) (fun rl rb tb tll ip => hF ni fi ki va so pr pm sk oc yh' ty tl rl tll ip rb tb YS2 hy h1 h2)
        have Rnew : ∀ (ni fi : Int32) (ki va so pr pm : Nat → Int32) (yh' ty tl : Nat → Int32) (car act xsl ses ysl : Int32), sn_YS c2 K2 V2 S2 oa2 sg2 pa2 ni fi ki va so pr pm → sn_ysv b_hist yh' (170 * 0) 0 (nI l) (nI q) f_selStart 0 (-1) y_selected a_text b_typed b_tLen a_typedText → (∀ s, s ≤ 9 → ty s = 0) → (∀ s, s ≤ 9 → tl s = 0) →
            sn_SQ (sn_GG n (sn_cp a_body 0 b_sBody 0 n) i2 c2 d2 st2 K2 V2 S2 oa2 ca2 sg2 dp2 pa2 (nI c2) ni fi ik iv op cl ki va so pr pm) c2 K2 V2 S2 oa2 ca2 cap l (nI (l + (sn_rr K2 V2 S2 oa2 ca2 L a_typedText c2).length)) car act xsl ses ysl L →
            sn_RF cap hc (0 + 1) n n l q i2 c2 d2 st2 K2 V2 S2 oa2 ca2 sg2 dp2 pa2 (nI (l + (sn_rr K2 V2 S2 oa2 ca2 L a_typedText c2).length)) car act xsl ses ysl (nI c2) ni fi L ty tl (sn_cp a_body 0 b_sBody 0 n) ik iv op cl ki va so pr pm xh' yh' := by
          intro ni fi ki va so pr pm yh' ty tl car act xsl ses ysl YS2 hy h1 h2 SQ
          have hP2 : sn_GG n (sn_cp a_body 0 b_sBody 0 n) i2 c2 d2 st2 K2 V2 S2 oa2 ca2 sg2 dp2 pa2 (nI c2) ni fi ik iv op cl ki va so pr pm → sn_PI c2 0 st2 K2 V2 S2 oa2 ca2 sg2 dp2 pa2 := fun _ => P2
          refine ⟨⟨R1.1, R1.2.1, R1.2.2.1, R1.2.2.2.1, by omega, n64, n64, hl, by omega⟩, fun s hs => Or.inl ⟨hL s hs, h1 s hs, h2 s hs⟩, SQ, ?_⟩
          refine sn_push (dep := 0) (xh := a_history) (yh := b_hist) (e := 0) (d := 0) hP2 (by omega) (fun h hh => absurd hh (by omega)) ?_ hx hy
          exact ⟨rfl, rfl, rfl, rfl, fun _ _ => rfl, fun _ _ => rfl, R2, ⟨b1, b2, l, q, rfl, rfl, hl, hlc, Or.inl ⟨rfl, rfl⟩⟩⟩
        refine sn_xgo P2 c65 h00' XS3 LL a_typedText q 0 rfl (by omega) (fun a ha1 ha9 al ht => ?_) (fun ht => ?_)
        · have ao := sn_alO P2 (by omega) al
          have lm := sn_rrM' (K := K2) (V := V2) (S := S2) (oa := oa2) (ca := ca2) (L := L) (T := a_typedText) ao.2
          refine Yw (fun ni fi ki va so pr pm sk oc yh' ty tl rl tll ip rb tb YS2 hy h1 h2 => ?_)
          have YT2 : sn_YT 0 ty tl L := fun s hs => Or.inl ⟨hL s hs, Or.inr (h1 s hs)⟩
          refine ⟨a, sn_yexA P2 c65 YS2 YT2 (fun s => nhL _ _) q a ha9 al (fun rl rb tb tll ip => ⟨rfl, ?_⟩) (a - 1) 1 a (by omega) (by omega) (by omega) (fun t h3 h4 => ht t (by omega) h4)⟩
          refine sn_mk (dep := 0 + 1) (Rnew ni fi ki va so pr pm yh' ty tl _ _ _ _ _ YS2 hy h1 h2 ⟨Or.inr rfl, Or.inr rfl, l + (sn_rr K2 V2 S2 oa2 ca2 L a_typedText c2).length, q + (sn_rr K2 V2 S2 oa2 ca2 L a_typedText (ca2 a)).length, rfl, rfl, by omega, by omega, Or.inr ⟨rfl, rfl, ⟨ppE, rfl, XS3, YS2⟩, a, rfl, by omega, ha9, ao.1, al.2, fun z => absurd z (by decide), by rw [eL2]⟩⟩)
        · have lm := sn_rrM' (K := K2) (V := V2) (S := S2) (oa := oa2) (ca := ca2) (L := L) (T := a_typedText) (Nat.le_of_lt h00')
          refine Yw (fun ni fi ki va so pr pm sk oc yh' ty tl rl tll ip rb tb YS2 hy h1 h2 => ?_)
          have YT2 : sn_YT 0 ty tl L := fun s hs => Or.inl ⟨hL s hs, Or.inr (h1 s hs)⟩
          refine ⟨10, sn_yexN P2 c65 h00' YS2 YT2 (fun s => nhL _ _) q (fun rl rb tb tll ip => ⟨rfl, ?_⟩) 9 1 10 (by omega) (by omega) (by omega) (fun t h3 h4 => ht t (by omega) h4)⟩
          refine sn_mk (dep := 0 + 1) (Rnew ni fi ki va so pr pm yh' ty tl _ _ _ _ _ YS2 hy h1 h2 ⟨b1, Or.inl rfl, l + (sn_rr K2 V2 S2 oa2 ca2 L a_typedText c2).length, q + (sn_rr K2 V2 S2 oa2 ca2 L a_typedText (oa2 0)).length, rfl, rfl, by omega, by omega, Or.inl ⟨rfl, rfl⟩⟩)
      · refine br_f (nI_ge (a := cap) (b := l + (sn_rr K2 V2 S2 oa2 ca2 sn_L0 a_typedText c2).length) (by omega) (by omega)) ?_
        refine br_t rfl ?_
        refine sn_ypar (b := a_body) (n := n) (Or.inl ⟨rfl, rfl⟩) n64 ⟨fun _ => rfl, fun z => absurd rfl z⟩ ⟨fun e' => by rw [eg] at e'; exact absurd e' (by simp), fun g' e' ni fi ki va so pr pm sk oc D' => br_f (by decide) ?_⟩
        rw [eg] at e'
        cases e'
        have YS2 : sn_YS c2 K2 V2 S2 oa2 sg2 pa2 ni fi ki va so pr pm := D'
        refine sn_yrn P2 c65 YS2 T0 (fun rb tb tll ip A Ip => ?_)
        show (_ → _) ∧ (_ → _)
        rw [nI_add]
        refine br_f (nI_ge (by omega) (by omega)) ?_
        exact sn_yre sb s64 (fun r ni fi ki va so pr pm sk oc hY => ⟨rfl, again _ _ _ dK dV dO dC en ni fi ki va so pr pm sk oc _ _ _ _ _ hY⟩)
  · subst ea es
    exact sn_xins (fun z => absurd z (sn_nm1 (by omega))) (fun _ => br_f (by decide) (br_f (by decide) ⟨rfl, J⟩))
end SOR
end
