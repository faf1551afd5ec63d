/-! Which cell is what. -/
theorem sh_X5 {ad : Nat → Nat} {cs : Cs} {p : Nat} (hp : p < 4) : ∀ f, clf ad cs (13 * p + 2) f = .inr (5, oX5 ad p f) := by
  match p, hp with
  | 0, _ => exact fun _ => rfl
  | 1, _ => exact fun _ => rfl
  | 2, _ => exact fun _ => rfl
  | 3, _ => exact fun _ => rfl
theorem sh_X1 {ad : Nat → Nat} {cs : Cs} {p : Nat} (hp : p < 4) : ∀ f, clf ad cs (13 * p + 3) f = .inr (1, oX1 ad p f) := by
  match p, hp with
  | 0, _ => exact fun _ => rfl
  | 1, _ => exact fun _ => rfl
  | 2, _ => exact fun _ => rfl
  | 3, _ => exact fun _ => rfl
theorem sh_X4 {ad : Nat → Nat} {cs : Cs} {p : Nat} (hp : p < 4) : ∀ f, clf ad cs (13 * p + 8) f = .inr (4, oX4 ad p f) := by
  match p, hp with
  | 0, _ => exact fun _ => rfl
  | 1, _ => exact fun _ => rfl
  | 2, _ => exact fun _ => rfl
  | 3, _ => exact fun _ => rfl
theorem sh_P {ad : Nat → Nat} {cs : Cs} {p : Nat} (hp : p < 4) (j n : Nat) (h : ∀ q, q < 4 → ∀ f, clf ad cs (13 * q + j) f = rI cs n f) : ∀ f, clf ad cs (13 * p + j) f = rI cs n f := h p hp
theorem sh_a4 {ad : Nat → Nat} {cs : Cs} {p : Nat} (hp : p < 4) : ∀ f, clf ad cs (13 * p + 4) f = rI cs 24 f := by
  match p, hp with
  | 0, _ => exact fun _ => rfl
  | 1, _ => exact fun _ => rfl
  | 2, _ => exact fun _ => rfl
  | 3, _ => exact fun _ => rfl
theorem sh_a5 {ad : Nat → Nat} {cs : Cs} {p : Nat} (hp : p < 4) : ∀ f, clf ad cs (13 * p + 5) f = rI cs 24 f := by
  match p, hp with
  | 0, _ => exact fun _ => rfl
  | 1, _ => exact fun _ => rfl
  | 2, _ => exact fun _ => rfl
  | 3, _ => exact fun _ => rfl
theorem sh_a6 {ad : Nat → Nat} {cs : Cs} {p : Nat} (hp : p < 4) : ∀ f, clf ad cs (13 * p + 6) f = rI cs 24 f := by
  match p, hp with
  | 0, _ => exact fun _ => rfl
  | 1, _ => exact fun _ => rfl
  | 2, _ => exact fun _ => rfl
  | 3, _ => exact fun _ => rfl
theorem sh_a7 {ad : Nat → Nat} {cs : Cs} {p : Nat} (hp : p < 4) : ∀ f, clf ad cs (13 * p + 7) f = rI cs 24 f := by
  match p, hp with
  | 0, _ => exact fun _ => rfl
  | 1, _ => exact fun _ => rfl
  | 2, _ => exact fun _ => rfl
  | 3, _ => exact fun _ => rfl
theorem sh_a9 {ad : Nat → Nat} {cs : Cs} {p : Nat} (hp : p < 4) : ∀ f, clf ad cs (13 * p + 9) f = rI cs 49152 f := by
  match p, hp with
  | 0, _ => exact fun _ => rfl
  | 1, _ => exact fun _ => rfl
  | 2, _ => exact fun _ => rfl
  | 3, _ => exact fun _ => rfl
theorem sh_a10 {ad : Nat → Nat} {cs : Cs} {p : Nat} (hp : p < 4) : ∀ f, clf ad cs (13 * p + 10) f = rI cs 2048 f := by
  match p, hp with
  | 0, _ => exact fun _ => rfl
  | 1, _ => exact fun _ => rfl
  | 2, _ => exact fun _ => rfl
  | 3, _ => exact fun _ => rfl
/-- a table of calls is at k, its rows behind it -/
def Tab (k : Nat) : Prop := ∃ p, p < 4 ∧ (k = 13 * p + 11 ∨ k = 13 * p + 13)
theorem tab_c {p : Nat} (hp : p < 4) : Tab (13 * p + 11) := ⟨p, hp, Or.inl rfl⟩
theorem tab_d {p : Nat} (hp : p < 4) : Tab (13 * p + 13) := ⟨p, hp, Or.inr rfl⟩
theorem tab_lt {k : Nat} (h : Tab k) : k < NN := by
  obtain ⟨p, hp, h⟩ := h
  show k < 93
  omega
theorem tab_lt1 {k : Nat} (h : Tab k) : k + 1 < NN := by
  obtain ⟨p, hp, h⟩ := h
  show k + 1 < 93
  omega
theorem sh_X0 {ad : Nat → Nat} {cs : Cs} {k : Nat} (h : Tab k) : ∀ f, clf ad cs k f = .inr (0, oX0 ad k f) := by
  obtain ⟨p, hp, h | h⟩ := h <;> subst h
  · match p, hp with
    | 0, _ => exact fun _ => rfl
    | 1, _ => exact fun _ => rfl
    | 2, _ => exact fun _ => rfl
    | 3, _ => exact fun _ => rfl
  · match p, hp with
    | 0, _ => exact fun _ => rfl
    | 1, _ => exact fun _ => rfl
    | 2, _ => exact fun _ => rfl
    | 3, _ => exact fun _ => rfl
theorem sh_rows {ad : Nat → Nat} {cs : Cs} {k : Nat} (h : Tab k) : ∀ f, clf ad cs (k + 1) f = rI cs 64 f := by
  obtain ⟨p, hp, h | h⟩ := h <;> subst h
  · match p, hp with
    | 0, _ => exact fun _ => rfl
    | 1, _ => exact fun _ => rfl
    | 2, _ => exact fun _ => rfl
    | 3, _ => exact fun _ => rfl
  · match p, hp with
    | 0, _ => exact fun _ => rfl
    | 1, _ => exact fun _ => rfl
    | 2, _ => exact fun _ => rfl
    | 3, _ => exact fun _ => rfl
/-- a row of the house: what is left, the list, what is kept -/
def Row (k : Nat) : Prop := k = 67 ∨ k = 68 ∨ k = 69
theorem row_lt {k : Nat} (h : Row k) : k < NN := by
  rcases h with h | h | h <;> subst h <;> decide
theorem sh_row {ad : Nat → Nat} {cs : Cs} {k : Nat} (h : Row k) : ∀ f, clf ad cs k f = rI cs 32 f := by
  rcases h with h | h | h <;> subst h <;> exact fun _ => rfl
theorem P_lt {p : Nat} (hp : p < 4) {j : Nat} (hj : j ≤ 14) : 13 * p + j < NN := by
  show 13 * p + j < 93
  omega
