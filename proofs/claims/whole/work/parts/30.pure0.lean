/-! ===== PURE: evaluating the programs over numbers ===== -/
theorem litI (n : Nat) : (OfNat.ofNat n : Int32) = nI (OfNat.ofNat n) := rfl
theorem n_add (a b : Nat) : nI a + nI b = nI (a + b) := (Int32.ofNat_add a b).symm
theorem n_le {a b : Nat} (ha : a < 2147483648) (hb : b < 2147483648) : (nI a ≤ nI b) = (a ≤ b) := propext (nI_leI ha hb)
theorem n_lt {a b : Nat} (ha : a < 2147483648) (hb : b < 2147483648) : (nI a < nI b) = (a < b) := propext (nI_ltI ha hb)
theorem n_eq {a b : Nat} (ha : a < 2147483648) (hb : b < 2147483648) : (nI a = nI b) = (a = b) := propext (nI_eq ha hb)
theorem n_sub {a b : Nat} (h : b ≤ a) : nI a - nI b = nI (a - b) := pk_sub h
theorem n_mul (a b : Nat) : nI a * nI b = nI (a * b) := pk_mul a b
theorem inb_n {a N : Nat} (h : a < N) (hN : N < 2147483648) : inb (nI a) N = true := decide_eq_true (vp_in_nI h hN)
theorem ix_n {a : Nat} (h : a < 2147483648) : ix (nI a) = a := nI_clamp h
theorem chk_t {α : Type} {x : Option α} : chk true x = x := if_pos rfl
theorem lt_s' {α β : Type} {a : α} {f : α → β} : lt' a f = f a := rfl
theorem ob_s {α β : Type} {a : α} {f : α → Option β} : ob (some a) f = f a := rfl
theorem ob2_s {α β γ : Type} {a : α} {b : β} {f : α → β → Option γ} : ob2 (some (a, b)) f = f a b := rfl
theorem obx_l {α β : Type} {e : Nat} {f : α → Option (RX β)} : obx (some (.inl e)) f = some (.inl e) := rfl
theorem obx_r {α β : Type} {a : α} {f : α → Option (RX β)} : obx (some (.inr a)) f = f a := rfl
theorem obx2_l {α β : Type} {e : Nat} {M : Mem} {f : α → Mem → Option (RX β × Mem)} : obx2 (some (.inl e, M)) f = some (.inl e, M) := rfl
theorem obx2_r {α β : Type} {a : α} {M : Mem} {f : α → Mem → Option (RX β × Mem)} : obx2 (some (.inr a, M)) f = f a M := rfl
theorem obxr_l {α β : Type} {e : Nat} {M : Mem} {f : α → Option (RX β × Mem)} : obxr (some (.inl e)) M f = some (.inl e, M) := rfl
theorem obxr_r {α β : Type} {a : α} {M : Mem} {f : α → Option (RX β × Mem)} : obxr (some (.inr a)) M f = f a := rfl
theorem isB_0 : isB (nI 0) = true := rfl
theorem isB_1 : isB (nI 1) = true := rfl
theorem sm32 : ∀ f, f < 31 → ((nI f).toBitVec.smod 32).toNat = f := by decide
theorem n_and31 {f : Nat} (hf : f < 31) : nI f &&& nI 31 = nI f := by
  rw [pk_andN (n := f) (by omega) (m := nI 31) 5 rfl, Nat.mod_eq_of_lt (by omega)]
theorem n_shr {m f : Nat} (hm : m < 2147483648) (hf : f < 31) : nI m >>> (nI f &&& nI 31) = nI (m / 2 ^ f) := by
  rw [n_and31 hf]
  exact pk_shrN hm _ f (sm32 f hf)
theorem n_shl {f : Nat} (hf : f < 31) : nI 1 <<< (nI f &&& nI 31) = nI (2 ^ f) := by
  rw [n_and31 hf, pk_shlN (n := 1) _ f (sm32 f hf) (by rw [Nat.one_mul]; exact Nat.pow_lt_pow_right (by decide) (by omega)), Nat.one_mul]
theorem n_and1 {m : Nat} (hm : m < 2147483648) : nI m &&& nI 1 = nI (m % 2) := pk_andN (by omega) (m := nI 1) 1 rfl
theorem tb_mod (w f : Nat) : w / 2 ^ f % 2 = (w.testBit f).toNat := by
  rw [Nat.testBit_eq_decide_div_mod_eq]
  have h : w / 2 ^ f % 2 < 2 := Nat.mod_lt _ (by decide)
  rcases (by omega : w / 2 ^ f % 2 = 0 ∨ w / 2 ^ f % 2 = 1) with e | e <;> rw [e] <;> rfl
theorem n_bit {w f : Nat} (hw : w < 2147483648) (hf : f < 31) : (nI w >>> (nI f &&& nI 31)) &&& nI 1 = nI (w.testBit f).toNat := by
  rw [n_shr hw hf, n_and1 (Nat.lt_of_le_of_lt (Nat.div_le_self _ _) hw), tb_mod]
theorem n_bv (a : Nat) : (nI a).toBitVec = BitVec.ofNat 32 a := rfl
theorem n_or {a b : Nat} (ha : a < 2147483648) (hb : b < 2147483648) : nI a ||| nI b = nI (a ||| b) := by
  apply Int32.toBitVec_inj.mp
  apply BitVec.eq_of_toNat_eq
  have h : a ||| b < 2 ^ 31 := Nat.or_lt_two_pow ha hb
  rw [Int32.toBitVec_or, BitVec.toNat_or, n_bv, n_bv, n_bv, BitVec.toNat_ofNat, BitVec.toNat_ofNat, BitVec.toNat_ofNat, Nat.mod_eq_of_lt (by omega), Nat.mod_eq_of_lt (by omega), Nat.mod_eq_of_lt (by omega)]
theorem n_andn {w v : Nat} (hw : w < 2147483648) (hv : v < 2147483648) : nI w &&& (nI v ^^^ (-nI 1)) = nI (w &&& (v ^^^ 4294967295)) := by
  apply Int32.toBitVec_inj.mp
  apply BitVec.eq_of_toNat_eq
  have h : w &&& (v ^^^ 4294967295) ≤ w := Nat.and_le_left
  have e : ((-nI 1 : Int32).toBitVec).toNat = 4294967295 := rfl
  rw [Int32.toBitVec_and, BitVec.toNat_and, Int32.toBitVec_xor, BitVec.toNat_xor, e, n_bv, n_bv, n_bv, BitVec.toNat_ofNat, BitVec.toNat_ofNat, BitVec.toNat_ofNat, Nat.mod_eq_of_lt (show w < 2 ^ 32 by omega), Nat.mod_eq_of_lt (show v < 2 ^ 32 by omega), Nat.mod_eq_of_lt (by omega)]
theorem tb_andn {w f i : Nat} (hi : i < 32) : (w &&& (2 ^ f ^^^ 4294967295)).testBit i = (w.testBit i && decide (i ≠ f)) := by
  rw [Nat.testBit_and, Nat.testBit_xor, Nat.testBit_two_pow, show (4294967295 : Nat) = 2 ^ 32 - 1 from rfl, Nat.testBit_two_pow_sub_one]
  by_cases h : f = i
  · subst h; simp [hi]
  · simp [h, hi, Ne.symm h]
theorem tb_or {w f i : Nat} : (w ||| 2 ^ f).testBit i = (w.testBit i || decide (i = f)) := by
  rw [Nat.testBit_or, Nat.testBit_two_pow]
  by_cases h : f = i
  · subst h; simp
  · simp [h, Ne.symm h]
theorem or_lt12 {w f : Nat} (hw : w < 4096) (hf : f < 12) : w ||| 2 ^ f < 4096 := Nat.or_lt_two_pow (n := 12) hw (Nat.pow_lt_pow_right (by decide) hf)
theorem n_ti {a : Nat} (h : a < 2147483648) : (nI a).toInt = a := nI_toInt h
theorem n_1 : (nI 1).toInt = 1 := rfl
theorem n_m1t {v : Nat} (h : v < 2147483648) : (nI v - nI 1).toInt = (v : Int) - 1 := by
  rw [Int32.toInt_sub, n_ti h, n_1, Int.bmod_def]
  split <;> omega
theorem n_m1_lt {v f : Nat} (h : v < 2147483648) (hf : f < 2147483648) : (nI v - nI 1 < nI f) = (v < f + 1) := by
  rw [Int32.lt_iff_toInt_lt, n_m1t h, n_ti hf]
  apply propext; omega
theorem n_m1_eq {v f : Nat} (h : v < 2147483648) (hf : f < 2147483648) : (nI v - nI 1 = nI f) = (v = f + 1) := by
  rw [← Int32.toInt_inj, n_m1t h, n_ti hf]
  apply propext; omega
theorem n_mm1 : (-nI 1).toInt = -1 := rfl
theorem n_m1_m {v : Nat} (h : v < 2147483648) : (nI v - nI 1 = -nI 1) = (v = 0) := by
  rw [← Int32.toInt_inj, n_m1t h, n_mm1]
  apply propext; omega
theorem n_ne_m {v : Nat} (h : v < 2147483648) : (nI v = -nI 1) = False := by
  rw [← Int32.toInt_inj, n_ti h, n_mm1]
  apply eq_false; omega
theorem n_m_ne {v : Nat} (h : v < 2147483648) : (-nI 1 = nI v) = False := by
  rw [← Int32.toInt_inj, n_ti h, n_mm1]
  apply eq_false; omega
theorem n_m_lt0 : (-nI 1 < nI 0) = True := by simp only [Int32.lt_iff_toInt_lt]; exact eq_true (by decide)
theorem n_0_le_m : (nI 0 ≤ -nI 1) = False := by simp only [Int32.le_iff_toInt_le]; exact eq_false (by decide)
/-- an int is negative or a number -/
theorem i_or (x : Int32) : x < nI 0 ∨ ∃ f, f < 2147483648 ∧ x = nI f := by
  rcases Int.lt_or_le x.toInt 0 with h | h
  · left
    rw [Int32.lt_iff_toInt_lt]
    exact h
  · right
    have h2 : x.toInt < 2147483648 := Int32.toInt_lt x
    refine ⟨x.toInt.toNat, by omega, ?_⟩
    rw [← Int32.toInt_inj, n_ti (by omega)]
    omega
theorem neg_lt {x : Int32} {v : Nat} (h : x < nI 0) (hv : v < 2147483648) : (x < nI v) = True := by
  rw [Int32.lt_iff_toInt_lt] at h ⊢
  rw [n_ti hv]
  rw [n_ti (by decide)] at h
  apply eq_true; omega
theorem neg_ne {x : Int32} {v : Nat} (h : x < nI 0) (hv : v < 2147483648) : (x = nI v) = False := by
  rw [Int32.lt_iff_toInt_lt] at h
  rw [← Int32.toInt_inj, n_ti hv]
  rw [n_ti (by decide)] at h
  apply eq_false; omega
/-! sums, first places -/
def sm (g : Nat → Nat) : Nat → Nat
  | 0 => 0
  | n + 1 => sm g n + g n
theorem sm_s (g : Nat → Nat) (n : Nat) : sm g (n + 1) = sm g n + g n := rfl
theorem sm_le {g : Nat → Nat} {B : Nat} : ∀ {n : Nat}, (∀ i, i < n → g i ≤ B) → sm g n ≤ n * B
  | 0, _ => Nat.zero_le _
  | n + 1, h => by
    have h1 := sm_le (n := n) (fun i hi => h i (by omega))
    have h2 := h n (by omega)
    rw [sm_s, Nat.succ_mul]
    omega
theorem sm_mono {g g' : Nat → Nat} : ∀ {n : Nat}, (∀ i, i < n → g i ≤ g' i) → sm g n ≤ sm g' n
  | 0, _ => Nat.le_refl _
  | n + 1, h => by
    have h1 := sm_mono (n := n) (fun i hi => h i (by omega))
    have h2 := h n (by omega)
    rw [sm_s, sm_s]
    omega
theorem sm_0 {g : Nat → Nat} : ∀ {n : Nat}, (∀ i, i < n → g i = 0) → sm g n = 0
  | 0, _ => rfl
  | n + 1, h => by rw [sm_s, sm_0 (n := n) (fun i hi => h i (by omega)), h n (by omega)]
theorem sm_congr {g g' : Nat → Nat} : ∀ {n : Nat}, (∀ i, i < n → g i = g' i) → sm g n = sm g' n
  | 0, _ => rfl
  | n + 1, h => by rw [sm_s, sm_s, sm_congr (n := n) (fun i hi => h i (by omega)), h n (by omega)]
theorem sm_upd {g g' : Nat → Nat} {f : Nat} : ∀ {n : Nat}, f < n → (∀ i, i ≠ f → g' i = g i) → sm g' n + g f = sm g n + g' f
  | 0, h, _ => absurd h (Nat.not_lt_zero _)
  | n + 1, h, he => by
    rw [sm_s, sm_s]
    by_cases e : f = n
    · subst e
      rw [sm_congr (g := g') (g' := g) (fun i hi => he i (by omega))]
      omega
    · have ih := sm_upd (n := n) (by omega) he
      have h2 := he n (by omega)
      omega
theorem loopN {σ ρ : Type} (L : Nat → σ → Option ρ) (st : Nat → σ) (F : Nat) (r : ρ) (h0 : ∀ k, L (k + 1) (st F) = some r) (hs : ∀ k f, f < F → L (k + 1) (st f) = L k (st (f + 1))) : ∀ k f, f ≤ F → F - f < k → L k (st f) = some r
  | 0, f, _, h => absurd h (Nat.not_lt_zero _)
  | k + 1, f, hf, h => by
    by_cases e : f = F
    · rw [e]; exact h0 k
    · rw [hs k f (by omega)]
      exact loopN L st F r h0 hs k (f + 1) (by omega) (by omega)
/-- a search: it goes on over the places below q, and stops at q -/
theorem loopQ {σ ρ : Type} (L : Nat → σ → Option ρ) (st : Nat → σ) (q : Nat) (r : Option ρ) (h0 : ∀ k, L (k + 1) (st q) = r) (hs : ∀ k f, f < q → L (k + 1) (st f) = L k (st (f + 1))) : ∀ k f, f ≤ q → q - f < k → L k (st f) = r
  | 0, f, _, h => absurd h (Nat.not_lt_zero _)
  | k + 1, f, hf, h => by
    by_cases e : f = q
    · rw [e]; exact h0 k
    · rw [hs k f (by omega)]
      exact loopQ L st q r h0 hs k (f + 1) (by omega) (by omega)
/-- the first place below n with c, else n -/
def fst (c : Nat → Bool) : Nat → Nat
  | 0 => 0
  | n + 1 => if fst c n < n then fst c n else if c n then n else n + 1
theorem fst_le (c : Nat → Bool) : ∀ n, fst c n ≤ n
  | 0 => Nat.le_refl _
  | n + 1 => by
    have h := fst_le c n
    unfold fst
    split
    · omega
    · split <;> omega
theorem fst_lo (c : Nat → Bool) : ∀ n i, i < fst c n → c i = false
  | 0, i, h => absurd h (Nat.not_lt_zero _)
  | n + 1, i, h => by
    have ih := fst_lo c n
    have hl := fst_le c n
    unfold fst at h
    split at h
    · exact ih i h
    · have e : fst c n = n := by omega
      split at h
      · exact ih i (by omega)
      · by_cases e2 : i = n
        · subst e2; simpa using (by assumption : ¬ c i = true)
        · exact ih i (by omega)
theorem fst_at (c : Nat → Bool) : ∀ n, fst c n < n → c (fst c n) = true
  | 0, h => absurd h (Nat.not_lt_zero _)
  | n + 1, h => by
    have ih := fst_at c n
    have hl := fst_le c n
    unfold fst at h ⊢
    split
    · exact ih (by assumption)
    · split
      · assumption
      · rename_i h1 h2
        rw [if_neg h1, if_neg h2] at h
        omega
/-- as many different numbers below n as k: k is at most n -/
theorem php : ∀ (n k : Nat) (f : Nat → Nat), (∀ i, i < k → f i < n) → (∀ i j, i < j → j < k → f i ≠ f j) → k ≤ n
  | 0, k, f, h, _ => by
    by_cases hk : k = 0
    · omega
    · exact absurd (h 0 (by omega)) (Nat.not_lt_zero _)
  | n + 1, 0, f, h, _ => Nat.zero_le _
  | n + 1, k + 1, f, h, hd => by
    -- f k leaves its place to the one that is n
    have key := php n k (fun i => if f i = n then f k else f i) (fun i hi => by
      show (if f i = n then f k else f i) < n
      have h1 := h i (by omega)
      have h2 := h k (by omega)
      have h3 := hd i k hi (by omega)
      split <;> omega) (fun i j hij hj => by
      show (if f i = n then f k else f i) ≠ (if f j = n then f k else f j)
      have h1 := hd i j hij (by omega)
      have h2 := hd i k (by omega) (by omega)
      have h3 := hd j k hj (by omega)
      split <;> split <;> omega)
    omega
/-! memories -/
theorem u2_s {M : Mem} {k j : Nat} {x : Int32} : up2 M k j x k j = x := by simp [up2, upr, upd]
theorem u2_k {M : Mem} {k j k' : Nat} {x : Int32} (h : k' ≠ k) : up2 M k j x k' = M k' := by simp [up2, upr, h]
theorem u2_j {M : Mem} {k j j' : Nat} {x : Int32} (h : j' ≠ j) : up2 M k j x k j' = M k j' := by simp [up2, upr, upd, h]
theorem u2_if {M : Mem} {k j k' j' : Nat} {x : Int32} : up2 M k j x k' j' = if k' = k then (if j' = j then x else M k' j') else M k' j' := by
  by_cases h : k' = k
  · subst h
    by_cases h2 : j' = j
    · subst h2; simp [up2, upr, upd]
    · simp [up2, upr, upd, h2]
  · simp [up2, upr, h]
def sV (V : Nat → Nat) (k x : Nat) : Nat → Nat := fun j => if j = k then x else V j
theorem sV_s {V : Nat → Nat} {k x : Nat} : sV V k x k = x := if_pos rfl
theorem sV_n {V : Nat → Nat} {k x j : Nat} (h : j ≠ k) : sV V k x j = V j := if_neg h

/-- a loop that counts up to F -/
theorem loopS {ρ : Type} (L : Nat → Nat → Option ρ) (F : Nat) (r : Option ρ) (h0 : ∀ k, L (k + 1) F = r) (hs : ∀ k f, f < F → L (k + 1) f = L k (f + 1)) (n : Nat) (h : F < n) : L n 0 = r := by
  have key : ∀ k f, f ≤ F → F - f < k → L k f = r := by
    intro k
    induction k with
    | zero => intro f _ h; exact absurd h (Nat.not_lt_zero _)
    | succ k ih =>
      intro f hf hk
      by_cases e : f = F
      · rw [e]; exact h0 k
      · rw [hs k f (by omega)]
        exact ih (f + 1) (by omega) (by omega)
  exact key n 0 (Nat.zero_le _) (by omega)
/-- the same from s on -/
theorem loopF {ρ : Type} (L : Nat → Nat → Option ρ) (s F : Nat) (r : Option ρ) (h0 : ∀ k, L (k + 1) F = r) (hs : ∀ k f, s ≤ f → f < F → L (k + 1) f = L k (f + 1)) (n : Nat) (hsF : s ≤ F) (h : F - s < n) : L n s = r := by
  have key : ∀ k f, s ≤ f → f ≤ F → F - f < k → L k f = r := by
    intro k
    induction k with
    | zero => intro f _ _ h; exact absurd h (Nat.not_lt_zero _)
    | succ k ih =>
      intro f hs1 hf hk
      by_cases e : f = F
      · rw [e]; exact h0 k
      · rw [hs k f hs1 (by omega)]
        exact ih (f + 1) (by omega) (by omega) (by omega)
  exact key n s (Nat.le_refl _) hsF h

/-- a loop with a state that keeps I -/
theorem loopI {σ ρ : Type} (L : Nat → Nat → σ → Option ρ) (I : Nat → σ → Prop) (Q : ρ → Prop) (s F : Nat) (h0 : ∀ k x, I F x → ∃ r, L (k + 1) F x = some r ∧ Q r) (hs : ∀ k f x, s ≤ f → f < F → I f x → ∃ x', I (f + 1) x' ∧ L (k + 1) f x = L k (f + 1) x') (n : Nat) (hsF : s ≤ F) (hn : F - s < n) (x : σ) (hx : I s x) : ∃ r, L n s x = some r ∧ Q r := by
  have key : ∀ k f x, s ≤ f → f ≤ F → F - f < k → I f x → ∃ r, L k f x = some r ∧ Q r := by
    intro k
    induction k with
    | zero => intro f x _ _ h; exact absurd h (Nat.not_lt_zero _)
    | succ k ih =>
      intro f x hs1 hf hk hI
      by_cases e : f = F
      · subst e; exact h0 k x hI
      · obtain ⟨x', hI', e2⟩ := hs k f x hs1 (by omega) hI
        rw [e2]
        exact ih (f + 1) x' (by omega) (by omega) (by omega) hI'
  exact key n s x (Nat.le_refl _) hsF hn hx
theorem fst_eq {c : Nat → Bool} {n q : Nat} (hq : q < n) (h1 : c q = true) (h2 : ∀ i, i < q → c i = false) : fst c n = q := by
  rcases Nat.lt_trichotomy (fst c n) q with h | h | h
  · have := fst_at c n (by omega)
    rw [h2 _ h] at this
    cases this
  · exact h
  · have := fst_lo c n q h
    rw [h1] at this
    cases this
