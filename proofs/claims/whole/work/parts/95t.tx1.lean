/-! text: what a token is, by its place -/
/-- behind blanks, at most d of them -/
def skB (tp : Nat → Nat) : Nat → Nat → Nat
  | 0, k => k
  | d + 1, k => if tp k = 32 ∨ tp k = 10 then skB tp d (k + 1) else k
/-- behind bytes from lo to hi, at most d of them -/
def rnB (lo hi : Nat) (tp : Nat → Nat) : Nat → Nat → Nat
  | 0, k => k
  | d + 1, k => if lo ≤ tp k ∧ tp k ≤ hi then rnB lo hi tp d (k + 1) else k
/-- what i bytes from f on are in base b -/
def wvB (b z : Nat) (tp : Nat → Nat) (f : Nat) : Nat → Nat
  | 0 => 0
  | i + 1 => b * wvB b z tp f i + (tp (f + i) - z)
/-- a name's number in base 32 out of base 27, and back -/
def cvN : Nat → Nat → Nat
  | 0, _ => 0
  | k + 1, v => 32 * cvN k (v / 27) + v % 27
def vcN : Nat → Nat → Nat
  | 0, _ => 0
  | k + 1, v => 27 * vcN k (v / 32) + v % 32
section TX1
variable {tp cs : Nat → Nat} {f g i j k d n lo hi : Nat}
theorem skB_le : ∀ {d k : Nat}, k ≤ skB tp d k ∧ skB tp d k ≤ k + d
  | 0, k => ⟨Nat.le_refl _, Nat.le_refl _⟩
  | d + 1, k => by
    have ih := skB_le (d := d) (k := k + 1)
    unfold skB
    split <;> omega
theorem rnB_le : ∀ {d k : Nat}, k ≤ rnB lo hi tp d k ∧ rnB lo hi tp d k ≤ k + d
  | 0, k => ⟨Nat.le_refl _, Nat.le_refl _⟩
  | d + 1, k => by
    have ih := rnB_le (d := d) (k := k + 1)
    unfold rnB
    split <;> omega
theorem rnB_in : ∀ {d k q : Nat}, k ≤ q → q < rnB lo hi tp d k → lo ≤ tp q ∧ tp q ≤ hi
  | 0, k, q, h1, h2 => by
    have : q < k := h2
    omega
  | d + 1, k, q, h1, h2 => by
    unfold rnB at h2
    split at h2
    · by_cases e : q = k
      · subst e; assumption
      · exact rnB_in (d := d) (k := k + 1) (by omega) h2
    · omega
theorem cvN_0 : ∀ k, cvN k 0 = 0
  | 0 => rfl
  | k + 1 => by
    show 32 * cvN k (0 / 27) + 0 % 27 = 0
    rw [Nat.zero_div, cvN_0 k]
theorem vcN_0 : ∀ k, vcN k 0 = 0
  | 0 => rfl
  | k + 1 => by
    show 27 * vcN k (0 / 32) + 0 % 32 = 0
    rw [Nat.zero_div, vcN_0 k]
theorem cvN_w : ∀ (i k : Nat), i ≤ k → (∀ q, q < i → 97 ≤ tp (f + q) ∧ tp (f + q) ≤ 122) → cvN k (wvB 27 96 tp f i) = wvB 32 96 tp f i
  | 0, k, _, _ => cvN_0 k
  | i + 1, 0, h, _ => by omega
  | i + 1, k + 1, h, hq => by
    have ih := cvN_w i k (by omega) (fun q h2 => hq q (by omega))
    have b := hq i (by omega)
    show 32 * cvN k ((27 * wvB 27 96 tp f i + (tp (f + i) - 96)) / 27) + (27 * wvB 27 96 tp f i + (tp (f + i) - 96)) % 27 = 32 * wvB 32 96 tp f i + (tp (f + i) - 96)
    rw [show (27 * wvB 27 96 tp f i + (tp (f + i) - 96)) / 27 = wvB 27 96 tp f i by omega, ih, show (27 * wvB 27 96 tp f i + (tp (f + i) - 96)) % 27 = tp (f + i) - 96 by omega]
theorem vcN_w : ∀ (i k : Nat), i ≤ k → (∀ q, q < i → 97 ≤ tp (f + q) ∧ tp (f + q) ≤ 122) → vcN k (wvB 32 96 tp f i) = wvB 27 96 tp f i
  | 0, k, _, _ => vcN_0 k
  | i + 1, 0, h, _ => by omega
  | i + 1, k + 1, h, hq => by
    have ih := vcN_w i k (by omega) (fun q h2 => hq q (by omega))
    have b := hq i (by omega)
    show 27 * vcN k ((32 * wvB 32 96 tp f i + (tp (f + i) - 96)) / 32) + (32 * wvB 32 96 tp f i + (tp (f + i) - 96)) % 32 = 27 * wvB 27 96 tp f i + (tp (f + i) - 96)
    rw [show (32 * wvB 32 96 tp f i + (tp (f + i) - 96)) / 32 = wvB 32 96 tp f i by omega, ih, show (32 * wvB 32 96 tp f i + (tp (f + i) - 96)) % 32 = tp (f + i) - 96 by omega]
/-- words are alike when their numbers are -/
theorem wvB_inj : ∀ (i j : Nat), (∀ q, q < i → 97 ≤ tp (f + q) ∧ tp (f + q) ≤ 122) → (∀ q, q < j → 97 ≤ cs (g + q) ∧ cs (g + q) ≤ 122) → (wvB 32 96 tp f i = wvB 32 96 cs g j ↔ i = j ∧ ∀ q, q < i → tp (f + q) = cs (g + q))
  | 0, 0, _, _ => ⟨fun _ => ⟨rfl, fun q h => by omega⟩, fun _ => rfl⟩
  | 0, j + 1, _, h2 => by
    have b := h2 j (by omega)
    refine ⟨fun e => ?_, fun e => by omega⟩
    have e2 : 0 = 32 * wvB 32 96 cs g j + (cs (g + j) - 96) := e
    omega
  | i + 1, 0, h1, _ => by
    have b := h1 i (by omega)
    refine ⟨fun e => ?_, fun e => by omega⟩
    have e2 : 32 * wvB 32 96 tp f i + (tp (f + i) - 96) = 0 := e
    omega
  | i + 1, j + 1, h1, h2 => by
    have ih := wvB_inj i j (fun q h => h1 q (by omega)) (fun q h => h2 q (by omega))
    have b1 := h1 i (by omega)
    have b2 := h2 j (by omega)
    have e1 : wvB 32 96 tp f (i + 1) = 32 * wvB 32 96 tp f i + (tp (f + i) - 96) := rfl
    have e2 : wvB 32 96 cs g (j + 1) = 32 * wvB 32 96 cs g j + (cs (g + j) - 96) := rfl
    rw [e1, e2]
    constructor
    · intro e
      obtain ⟨a1, a2⟩ := ih.mp (by omega)
      subst a1
      refine ⟨rfl, fun q hq => ?_⟩
      by_cases h : q = i
      · subst h; omega
      · exact a2 q (by omega)
    · intro ⟨a1, a2⟩
      have a3 : i = j := by omega
      subst a3
      have := ih.mpr ⟨rfl, fun q hq => a2 q (by omega)⟩
      have := a2 i (by omega)
      omega
theorem wvB_32 : ∀ (i : Nat), (∀ q, q < i → 97 ≤ tp (f + q) ∧ tp (f + q) ≤ 122) → wvB 32 96 tp f i < 32 ^ i
  | 0, _ => Nat.zero_lt_one
  | i + 1, h => by
    have ih := wvB_32 i (fun q hq => h q (by omega))
    have b := h i (by omega)
    have e1 : wvB 32 96 tp f (i + 1) = 32 * wvB 32 96 tp f i + (tp (f + i) - 96) := rfl
    rw [e1, Nat.pow_succ]
    omega
theorem wvB_27 : ∀ (i : Nat), (∀ q, q < i → 97 ≤ tp (f + q) ∧ tp (f + q) ≤ 122) → wvB 27 96 tp f i < 27 ^ i
  | 0, _ => Nat.zero_lt_one
  | i + 1, h => by
    have ih := wvB_27 i (fun q hq => h q (by omega))
    have b := h i (by omega)
    have e1 : wvB 27 96 tp f (i + 1) = 27 * wvB 27 96 tp f i + (tp (f + i) - 96) := rfl
    rw [e1, Nat.pow_succ]
    omega
theorem wvB_10 : ∀ (i : Nat), (∀ q, q < i → 48 ≤ tp (f + q) ∧ tp (f + q) ≤ 57) → wvB 10 48 tp f i < 10 ^ i
  | 0, _ => Nat.zero_lt_one
  | i + 1, h => by
    have ih := wvB_10 i (fun q hq => h q (by omega))
    have b := h i (by omega)
    have e1 : wvB 10 48 tp f (i + 1) = 10 * wvB 10 48 tp f i + (tp (f + i) - 48) := rfl
    rw [e1, Nat.pow_succ]
    omega
end TX1
